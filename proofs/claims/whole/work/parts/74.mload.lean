/-! the reference: a chain's text -/
section ZML
variable {G : zG} {d : Nat} {σ σ0 : zMem} {hm : Nat} {A : Nat → Nat} {t : Int → Int} {L : Nat} {s : tS} {D : Int → Int}
def mPl (hm : Nat) (A : Nat → Nat) (h : Nat) (j : Int) : Prop := mPt hm h j ∨ (h = A 1 ∧ 0 ≤ j ∧ j < 312)
theorem mPl_t {σ1 : zMem} (f : zFr (mPt hm) σ σ1) : zFr (mPl hm A) σ σ1 := f.wk fun _ _ q => Or.inl q
theorem mTs_A {k : Nat} {i v : Int} (hM : zMo σ hm A) (hk : k ∈ zmf.map (·.1)) (h : mTs σ hm t L s) : mTs (zsi σ (A k) i v) hm t L s := by
  have e : zia (zsi σ (A k) i v) hm = zia σ hm := zsi_at (Ne.symm (zMo_hm1 hM hk zMo_h1)) rfl
  unfold mTs at h ⊢
  rw [e]
  exact h
theorem mTx_A {k : Nat} {i v : Int} (hM : zMo σ hm A) (hk : k ∈ zmf.map (·.1)) (k18 : k ≠ 18) (h : mTx σ A t L) : mTx (zsi σ (A k) i v) A t L := by
  have e : zia (zsi σ (A k) i v) (A 18) = zia σ (A 18) := zsi_at (zMo_ne hM (by decide) hk (Ne.symm k18)) rfl
  unfold mTx at h ⊢
  rw [e]
  exact h
theorem mPl_N {σ1 : zMem} (hM : zMo σ hm A) (f : zFr (mPl hm A) σ σ1) {k : Nat} (hk : k ∈ zmf.map (·.1)) (k1 : k ≠ 1) : zia σ1 (A k) = zia σ (A k) := f.at fun j q => q.elim (fun q => zMo_hm1 hM hk zMo_h1 q.1) (fun q => zMo_ne hM hk (by decide) k1 q.1)
theorem mTx_l {σ1 : zMem} (hM : zMo σ hm A) (h : mTx σ A t L) (f : zFr (mPl hm A) σ σ1) : mTx σ1 A t L := mTx_fr h f fun j q => q.elim (fun q => zMo_hm1 hM (k := 18) (by decide) zMo_h1 q.1) (fun q => zMo_ne hM (j := 18) (k := 1) (by decide) (by decide) (by decide) q.1)
theorem mCn_b2 {h : Int} {n : Nat} : 0 ≤ mCn D h n ∧ mCn D h n ≤ n := by
  induction n with
  | zero => exact ⟨Int.le_refl _, Int.le_refl _⟩
  | succ n ih =>
    have e : mCn D h (n + 1) = mCn D h n + zb (mS D n 0 = h) := rfl
    have b := zb01 (mS D n 0 = h)
    rw [e]
    push_cast
    omega
theorem mTs_fr {P : Nat → Int → Prop} {σ1 : zMem} (h : mTs σ hm t L s) (f : zFr P σ σ1) (n : ∀ j, ¬ P hm j) : mTs σ1 hm t L s := by
  have e := f.at n
  unfold mTs at h ⊢
  rw [e]
  exact h
theorem zt_X12_readHouse  (hG : zOS G) (hM : zMo σ hm A) (hx : mTx σ A t L) (hs : mTs σ hm t L s) (hD : zia σ (A 1) = D) (hv : ldV D) (h0 : s.2 = 0) : zE G mX12_readHouse (d + 8) [zR hm] σ (fun ro σ1 => ro = .inl none ∧ zFr (mPl hm A) σ σ1 ∧ mTs σ1 hm t L (ldHouse t L (s, D)).1 ∧ ((ldHouse t L (s, D)).1.2 = 0 → zia σ1 (A 1) = (ldHouse t L (s, D)).2)) := by
  refine zE_of rfl (by simp [zcat]) (Nat.le_of_ble_eq_true rfl) ?_
  show zF G mX12_readHouse (d + 8) 0 [(0, zR hm)] [] σ _
  have hlt := mTs_lt hs
  have hl7 := hx.1
  have hn := hv.n
  have h1 : (tAdv t L s).2 = 0 := tAdv_2.trans h0
  refine zF_aload_n 1 dX12_readHouse_0 rfl rfl ?_
  refine zF_aload_n 2 dX12_readHouse_1 rfl rfl ?_
  refine zF_getR 5 dX12_readHouse_2 rfl gX12_13 hM.1 hM.2.1 (zM_1 hM).1 ?_
  refine zF_iconst 6 dX12_readHouse_5 rfl ?_
  refine zF_iaload 7 dX12_readHouse_6 rfl (zM_1 hM).2.2 (zM_1 hM).2.1 (by omega) (by omega) (congrFun hD _) ?_
  refine zF_iconst 8 dX12_readHouse_7 rfl ?_
  refine zF_icmp_ge 15 11 dX12_readHouse_8 rfl rfl (by first | decide | assumption | exact hv.b _ | (constructor <;> omega)) (by first | decide | assumption | exact hv.b _ | (constructor <;> omega)) (fun c1 => ?_) (fun c1 => ?_)
  · refine zF_iconst 16 dX12_readHouse_15 rfl ?_
    refine zF_iconst 17 dX12_readHouse_16 rfl ?_
    refine zF_callV 20 (d2 := (d + 7)) (as := [zI 0, zI 3]) dX12_readHouse_17 rfl kX12_382 iX12_check (ci := 12) rfl eX12_check (Nat.le_refl _) hM.1 hM.2.1 rfl rfl (Nat.le_of_ble_eq_true rfl) (zE.mono (zt_X12_check (σ := σ) (P := False) (c := 3) hM hx hs rfl (by decide) (by decide)) fun ro σa1 hh1 => ?_)
    obtain ⟨er1, fr1, p1⟩ := hh1
    subst er1
    refine ⟨fr1.1, ?_⟩
    show zF G mX12_readHouse (d + 8) 20 [(0, zR hm)] [] σa1 _
    have hMa1 := zMo_f2 (σ := σ) fr1 hM
    have hxa1 := mTx_t (σ := σ) hM hx fr1
    have hs1a : mTs σa1 hm t L (s.1, 3) := mTs_to p1 ((if_neg id).trans (if_pos (by first | assumption | omega)) : (if False then s else tFail 3 s) = (s.1, 3))
    have hD1a : zia σa1 (A 1) = D := (mPt_A (σ := σ) hM fr1 (k := 1) (by decide)).trans hD
    have ebhs1a := hs1a.2.2.2.2.2.2.2
    refine zF_aload_n 21 dX12_readHouse_20 rfl rfl ?_
    refine zF_callV 24 (d2 := (d + 7)) (as := []) dX12_readHouse_21 rfl kX12_386 iX12_advance (ci := 12) rfl eX12_advance (Nat.le_refl _) hMa1.1 hMa1.2.1 rfl rfl (Nat.le_of_ble_eq_true rfl) (zE.mono (zt_X12_advance (σ := σa1) hMa1 hxa1 hs1a) fun ro σa2 hh2 => ?_)
    obtain ⟨er2, fr2, p2⟩ := hh2
    subst er2
    refine ⟨fr2.1, ?_⟩
    show zF G mX12_readHouse (d + 8) 24 [(0, zR hm)] [] σa2 _
    have hMa2 := zMo_f2 (σ := σa1) fr2 hMa1
    have hxa2 := mTx_t (σ := σa1) hMa1 hxa1 fr2
    have hs2a : mTs σa2 hm t L (s.1, 3) := mTs_to p2 (tAdv_e (by show ¬ (3 : Int) = 0; decide))
    have hD2a : zia σa2 (A 1) = D := (mPt_A (σ := σa1) hMa1 fr2 (k := 1) (by decide)).trans hD1a
    have ebhs2a := hs2a.2.2.2.2.2.2.2
    refine zF_aload_n 25 dX12_readHouse_24 rfl rfl ?_
    refine zF_iconst 26 dX12_readHouse_25 rfl ?_
    refine zF_bipush 28 dX12_readHouse_26 rfl (by decide) ?_
    refine zF_callV 31 (d2 := (d + 7)) (as := [zI 1, zI 99]) dX12_readHouse_28 rfl kX12_404 iX12_readNumber (ci := 12) rfl eX12_readNumber (Nat.le_refl _) hMa2.1 hMa2.2.1 rfl rfl (Nat.le_of_ble_eq_true rfl) (zE.mono (zt_X12_readNumber (σ := σa2) hMa2 hxa2 hs2a (by first | decide | assumption | exact hv.b _ | (constructor <;> omega)) (by first | decide | assumption | exact hv.b _ | (constructor <;> omega)) (by omega)) fun ro σa3 hh3 => ?_)
    obtain ⟨er3, fr3, p3⟩ := hh3
    subst er3
    refine ⟨fr3.1, ?_⟩
    show zF G mX12_readHouse (d + 8) 31 [(0, zR hm)] [zI (tNumV t L 1 99 (s.1, 3))] σa3 _
    have hMa3 := zMo_f2 (σ := σa2) fr3 hMa2
    have hxa3 := mTx_t (σ := σa2) hMa2 hxa2 fr3
    have hs3a : mTs σa3 hm t L (s.1, 3) := mTs_to p3 (tNumS_e (by show ¬ (3 : Int) = 0; decide))
    have hD3a : zia σa3 (A 1) = D := (mPt_A (σ := σa2) hMa2 fr3 (k := 1) (by decide)).trans hD2a
    have ebhs3a := hs3a.2.2.2.2.2.2.2
    refine zF_istore_n 32 (ls' := [(1, zI (tNumV t L 1 99 (s.1, 3))), (0, zR hm)]) dX12_readHouse_31 rfl (by decide) rfl ?_
    refine zF_aload_n 33 dX12_readHouse_32 rfl rfl ?_
    refine zF_iconst 34 dX12_readHouse_33 rfl ?_
    refine zF_bipush 36 dX12_readHouse_34 rfl (by decide) ?_
    refine zF_callV 39 (d2 := (d + 7)) (as := [zI 1, zI 100]) dX12_readHouse_36 rfl kX12_404 iX12_readNumber (ci := 12) rfl eX12_readNumber (Nat.le_refl _) hMa3.1 hMa3.2.1 rfl rfl (Nat.le_of_ble_eq_true rfl) (zE.mono (zt_X12_readNumber (σ := σa3) hMa3 hxa3 hs3a (by first | decide | assumption | exact hv.b _ | (constructor <;> omega)) (by first | decide | assumption | exact hv.b _ | (constructor <;> omega)) (by omega)) fun ro σa4 hh4 => ?_)
    obtain ⟨er4, fr4, p4⟩ := hh4
    subst er4
    refine ⟨fr4.1, ?_⟩
    show zF G mX12_readHouse (d + 8) 39 [(1, zI (tNumV t L 1 99 (s.1, 3))), (0, zR hm)] [zI (tNumV t L 1 100 (s.1, 3))] σa4 _
    have hMa4 := zMo_f2 (σ := σa3) fr4 hMa3
    have hxa4 := mTx_t (σ := σa3) hMa3 hxa3 fr4
    have hs4a : mTs σa4 hm t L (s.1, 3) := mTs_to p4 (tNumS_e (by show ¬ (3 : Int) = 0; decide))
    have hD4a : zia σa4 (A 1) = D := (mPt_A (σ := σa3) hMa3 fr4 (k := 1) (by decide)).trans hD3a
    have ebhs4a := hs4a.2.2.2.2.2.2.2
    refine zF_istore_n 40 (ls' := [(2, zI (tNumV t L 1 100 (s.1, 3))), (1, zI (tNumV t L 1 99 (s.1, 3))), (0, zR hm)]) dX12_readHouse_39 rfl (by decide) rfl ?_
    refine zF_aload_n 41 dX12_readHouse_40 rfl rfl ?_
    refine zF_getI 44 dX12_readHouse_41 rfl gX12_363 (by decide) (by decide) hMa4.1 hMa4.2.1 hs4a.2.2.2.2.2.1 ?_
    refine zF_if_ne 89 47 dX12_readHouse_44 rfl rfl (by first | decide | assumption | exact hv.b _ | (constructor <;> omega)) (fun c2 => ?_) (fun c2 => ?_)
    · exact zF_return dX12_readHouse_89 rfl ((by
    have e : ldHouse t L (s, D) = ((s.1, 3), D) := (if_neg (by show ¬ D 0 < 4; omega)).trans (by rw [tFail_0 h0])
    rw [e]
    exact ⟨rfl, ((((mPl_t fr1).tr (mPl_t fr2)).tr (mPl_t fr3)).tr (mPl_t fr4)), hs4a, fun _ => hD4a⟩))
    · exact absurd c2 (by first | decide | simp)
  · refine zF_iconst 12 dX12_readHouse_11 rfl ?_
    refine zF_goto 16 dX12_readHouse_12 rfl ?_
    refine zF_iconst 17 dX12_readHouse_16 rfl ?_
    refine zF_callV 20 (d2 := (d + 7)) (as := [zI 1, zI 3]) dX12_readHouse_17 rfl kX12_382 iX12_check (ci := 12) rfl eX12_check (Nat.le_refl _) hM.1 hM.2.1 rfl rfl (Nat.le_of_ble_eq_true rfl) (zE.mono (zt_X12_check (σ := σ) (P := True) (c := 3) hM hx hs rfl (by decide) (by decide)) fun ro σa5 hh5 => ?_)
    obtain ⟨er5, fr5, p5⟩ := hh5
    subst er5
    refine ⟨fr5.1, ?_⟩
    show zF G mX12_readHouse (d + 8) 20 [(0, zR hm)] [] σa5 _
    have hMa5 := zMo_f2 (σ := σ) fr5 hM
    have hxa5 := mTx_t (σ := σ) hM hx fr5
    have hs5a : mTs σa5 hm t L s := mTs_to p5 (if_pos trivial)
    have hD5a : zia σa5 (A 1) = D := (mPt_A (σ := σ) hM fr5 (k := 1) (by decide)).trans hD
    have ebhs5a := hs5a.2.2.2.2.2.2.2
    refine zF_aload_n 21 dX12_readHouse_20 rfl rfl ?_
    refine zF_callV 24 (d2 := (d + 7)) (as := []) dX12_readHouse_21 rfl kX12_386 iX12_advance (ci := 12) rfl eX12_advance (Nat.le_refl _) hMa5.1 hMa5.2.1 rfl rfl (Nat.le_of_ble_eq_true rfl) (zE.mono (zt_X12_advance (σ := σa5) hMa5 hxa5 hs5a) fun ro σa6 hh6 => ?_)
    obtain ⟨er6, fr6, p6⟩ := hh6
    subst er6
    refine ⟨fr6.1, ?_⟩
    show zF G mX12_readHouse (d + 8) 24 [(0, zR hm)] [] σa6 _
    have hMa6 := zMo_f2 (σ := σa5) fr6 hMa5
    have hxa6 := mTx_t (σ := σa5) hMa5 hxa5 fr6
    have hs6a : mTs σa6 hm t L (tAdv t L s) := p6
    have hD6a : zia σa6 (A 1) = D := (mPt_A (σ := σa5) hMa5 fr6 (k := 1) (by decide)).trans hD5a
    have ebhs6a := hs6a.2.2.2.2.2.2.2
    refine zF_aload_n 25 dX12_readHouse_24 rfl rfl ?_
    refine zF_iconst 26 dX12_readHouse_25 rfl ?_
    refine zF_bipush 28 dX12_readHouse_26 rfl (by decide) ?_
    refine zF_callV 31 (d2 := (d + 7)) (as := [zI 1, zI 99]) dX12_readHouse_28 rfl kX12_404 iX12_readNumber (ci := 12) rfl eX12_readNumber (Nat.le_refl _) hMa6.1 hMa6.2.1 rfl rfl (Nat.le_of_ble_eq_true rfl) (zE.mono (zt_X12_readNumber (σ := σa6) hMa6 hxa6 hs6a (by first | decide | assumption | exact hv.b _ | (constructor <;> omega)) (by first | decide | assumption | exact hv.b _ | (constructor <;> omega)) (by omega)) fun ro σa7 hh7 => ?_)
    obtain ⟨er7, fr7, p7⟩ := hh7
    subst er7
    refine ⟨fr7.1, ?_⟩
    show zF G mX12_readHouse (d + 8) 31 [(0, zR hm)] [zI (tNumV t L 1 99 (tAdv t L s))] σa7 _
    have hMa7 := zMo_f2 (σ := σa6) fr7 hMa6
    have hxa7 := mTx_t (σ := σa6) hMa6 hxa6 fr7
    have hs7a : mTs σa7 hm t L (tNumS t L 1 99 (tAdv t L s)) := p7
    have hD7a : zia σa7 (A 1) = D := (mPt_A (σ := σa6) hMa6 fr7 (k := 1) (by decide)).trans hD6a
    have ebhs7a := hs7a.2.2.2.2.2.2.2
    refine zF_istore_n 32 (ls' := [(1, zI (tNumV t L 1 99 (tAdv t L s))), (0, zR hm)]) dX12_readHouse_31 rfl (by decide) rfl ?_
    refine zF_aload_n 33 dX12_readHouse_32 rfl rfl ?_
    refine zF_iconst 34 dX12_readHouse_33 rfl ?_
    refine zF_bipush 36 dX12_readHouse_34 rfl (by decide) ?_
    refine zF_callV 39 (d2 := (d + 7)) (as := [zI 1, zI 100]) dX12_readHouse_36 rfl kX12_404 iX12_readNumber (ci := 12) rfl eX12_readNumber (Nat.le_refl _) hMa7.1 hMa7.2.1 rfl rfl (Nat.le_of_ble_eq_true rfl) (zE.mono (zt_X12_readNumber (σ := σa7) hMa7 hxa7 hs7a (by first | decide | assumption | exact hv.b _ | (constructor <;> omega)) (by first | decide | assumption | exact hv.b _ | (constructor <;> omega)) (by omega)) fun ro σa8 hh8 => ?_)
    obtain ⟨er8, fr8, p8⟩ := hh8
    subst er8
    refine ⟨fr8.1, ?_⟩
    show zF G mX12_readHouse (d + 8) 39 [(1, zI (tNumV t L 1 99 (tAdv t L s))), (0, zR hm)] [zI (tNumV t L 1 100 (tNumS t L 1 99 (tAdv t L s)))] σa8 _
    have hMa8 := zMo_f2 (σ := σa7) fr8 hMa7
    have hxa8 := mTx_t (σ := σa7) hMa7 hxa7 fr8
    have hs8a : mTs σa8 hm t L (tNumS t L 1 100 (tNumS t L 1 99 (tAdv t L s))) := p8
    have hD8a : zia σa8 (A 1) = D := (mPt_A (σ := σa7) hMa7 fr8 (k := 1) (by decide)).trans hD7a
    have ebhs8a := hs8a.2.2.2.2.2.2.2
    refine zF_istore_n 40 (ls' := [(2, zI (tNumV t L 1 100 (tNumS t L 1 99 (tAdv t L s)))), (1, zI (tNumV t L 1 99 (tAdv t L s))), (0, zR hm)]) dX12_readHouse_39 rfl (by decide) rfl ?_
    refine zF_aload_n 41 dX12_readHouse_40 rfl rfl ?_
    refine zF_getI 44 dX12_readHouse_41 rfl gX12_363 (by decide) (by decide) hMa8.1 hMa8.2.1 hs8a.2.2.2.2.2.1 ?_
    refine zF_if_ne 89 47 dX12_readHouse_44 rfl rfl (by first | decide | assumption | exact hv.b _ | (constructor <;> omega)) (fun c3 => ?_) (fun c3 => ?_)
    · exact zF_return dX12_readHouse_89 rfl ((by
    have e : (ldHouse t L (s, D)).1 = (tNumS t L 1 100 (tNumS t L 1 99 (tAdv t L s))) := ldHouse_s.trans (if_pos (by omega))
    rw [e]
    exact ⟨rfl, ((((mPl_t fr5).tr (mPl_t fr6)).tr (mPl_t fr7)).tr (mPl_t fr8)), hs8a, fun z => absurd z (by omega)⟩))
    · refine zF_aload_n 48 dX12_readHouse_47 rfl rfl ?_
      refine zF_getR 51 dX12_readHouse_48 rfl gX12_13 hMa8.1 hMa8.2.1 (zM_1 hMa8).1 ?_
      refine zF_aload_n 52 dX12_readHouse_51 rfl rfl ?_
      refine zF_getR 55 dX12_readHouse_52 rfl gX12_13 hMa8.1 hMa8.2.1 (zM_1 hMa8).1 ?_
      refine zF_iconst 56 dX12_readHouse_55 rfl ?_
      refine zF_iaload 57 dX12_readHouse_56 rfl (zM_1 hMa8).2.2 (zM_1 hMa8).2.1 (by omega) (by omega) (congrFun hD8a _) ?_
      refine zF_iconst 58 dX12_readHouse_57 rfl ?_
      refine zF_callSi 61 (d2 := (d + 7)) (as := [zI (D 0), zI 0]) dX12_readHouse_58 rfl kX12_92 sX12_houseAt (Nat.le_refl _) rfl rfl (Nat.le_of_ble_eq_true rfl) (zt_X12_houseAt) ?_
      refine zF_iload_n 62 dX12_readHouse_61 rfl rfl ?_
      refine zF_iastore 63 dX12_readHouse_62 rfl (zM_1 hMa8).2.2 (zM_1 hMa8).2.1 (by omega) (by omega) ?_
      refine zF_aload_n 64 dX12_readHouse_63 rfl rfl ?_
      refine zF_getR 67 dX12_readHouse_64 rfl gX12_13 hMa8.1 hMa8.2.1 (zM_1 hMa8).1 ?_
      refine zF_aload_n 68 dX12_readHouse_67 rfl rfl ?_
      refine zF_getR 71 dX12_readHouse_68 rfl gX12_13 hMa8.1 hMa8.2.1 (zM_1 hMa8).1 ?_
      refine zF_iconst 72 dX12_readHouse_71 rfl ?_
      refine zF_iaload 73 dX12_readHouse_72 rfl (zM_1 hMa8).2.2 (zM_1 hMa8).2.1 (by omega) (by omega) (show zia (zsi σa8 (A 1) (6 + 2 * (D 0) + 0) (tNumV t L 1 99 (tAdv t L s))) (A 1) 0 = D 0 from (congrFun (mSet_mem hD8a) _).trans (by repeat (first | rw [mSet_o (by omega)] | rw [mBook_o2 (by omega)] | rw [mTm_o (by omega)]))) ?_
      refine zF_iconst 74 dX12_readHouse_73 rfl ?_
      refine zF_callSi 77 (d2 := (d + 7)) (as := [zI (D 0), zI 1]) dX12_readHouse_74 rfl kX12_92 sX12_houseAt (Nat.le_refl _) rfl rfl (Nat.le_of_ble_eq_true rfl) (zt_X12_houseAt) ?_
      refine zF_iload_n 78 dX12_readHouse_77 rfl rfl ?_
      refine zF_iastore 79 dX12_readHouse_78 rfl (zM_1 hMa8).2.2 (zM_1 hMa8).2.1 (by omega) (by omega) ?_
      refine zF_aload_n 80 dX12_readHouse_79 rfl rfl ?_
      refine zF_getR 83 dX12_readHouse_80 rfl gX12_13 hMa8.1 hMa8.2.1 (zM_1 hMa8).1 ?_
      refine zF_iconst 84 dX12_readHouse_83 rfl ?_
      refine zF_dup2 85 dX12_readHouse_84 rfl rfl rfl ?_
      refine zF_iaload 86 dX12_readHouse_85 rfl (zM_1 hMa8).2.2 (zM_1 hMa8).2.1 (by omega) (by omega) (show zia (zsi (zsi σa8 (A 1) (6 + 2 * (D 0) + 0) (tNumV t L 1 99 (tAdv t L s))) (A 1) (6 + 2 * (D 0) + 1) (tNumV t L 1 100 (tNumS t L 1 99 (tAdv t L s)))) (A 1) 0 = D 0 from (congrFun (mSet_mem (mSet_mem hD8a)) _).trans (by repeat (first | rw [mSet_o (by omega)] | rw [mBook_o2 (by omega)] | rw [mTm_o (by omega)]))) ?_
      refine zF_iconst 87 dX12_readHouse_86 rfl ?_
      refine zF_iadd 88 dX12_readHouse_87 rfl ?_
      refine zF_iastore 89 dX12_readHouse_88 rfl (zM_1 hMa8).2.2 (zM_1 hMa8).2.1 (by omega) (by omega) ?_
      exact zF_return dX12_readHouse_89 rfl ((by
    have e : ldHouse t L (s, D) = ((tNumS t L 1 100 (tNumS t L 1 99 (tAdv t L s))), (mSet (mSet (mSet D (6 + 2 * (D 0) + 0) (tNumV t L 1 99 (tAdv t L s))) (6 + 2 * (D 0) + 1) (tNumV t L 1 100 (tNumS t L 1 99 (tAdv t L s)))) 0 ((D 0) + 1))) := if_pos (by show D 0 < 4; omega)
    rw [e]
    exact ⟨rfl, (zFr_si (Or.inr ⟨rfl, by omega, by omega⟩) (zFr_si (Or.inr ⟨rfl, by omega, by omega⟩) (zFr_si (Or.inr ⟨rfl, by omega, by omega⟩) ((((mPl_t fr5).tr (mPl_t fr6)).tr (mPl_t fr7)).tr (mPl_t fr8))))), (mTs_A (σ := (zsi (zsi σa8 (A 1) (6 + 2 * (D 0) + 0) (tNumV t L 1 99 (tAdv t L s))) (A 1) (6 + 2 * (D 0) + 1) (tNumV t L 1 100 (tNumS t L 1 99 (tAdv t L s))))) (k := 1) hMa8 (by decide) (mTs_A (σ := (zsi σa8 (A 1) (6 + 2 * (D 0) + 0) (tNumV t L 1 99 (tAdv t L s)))) (k := 1) hMa8 (by decide) (mTs_A (σ := σa8) (k := 1) hMa8 (by decide) hs8a))), fun _ => (mSet_mem (mSet_mem (mSet_mem hD8a)))⟩))
theorem zt_X12_screensRead {h : Int} (hM : zMo σ hm A) (hD : zia σ (A 1) = D) (hv : ldV D) (zh : zrg h) : zP1 G mX12_screensRead (d + 1) [zR hm, zI h] σ (mCn D h (nS D)) := by
  refine zE_of rfl (by simp [zcat]) (Nat.le_of_ble_eq_true rfl) ?_
  show zF G mX12_screensRead (d + 1) 0 [(0, zR hm), (1, zI h)] [] σ _
  have hn := hv.n
  have hnS : ((nS D : Nat) : Int) = D 1 := by unfold nS; omega
  refine zF_iconst 1 dX12_screensRead_0 rfl ?_
  refine zF_istore_n 2 (ls' := [(2, zI 0), (0, zR hm), (1, zI h)]) dX12_screensRead_1 rfl (by decide) rfl ?_
  refine zF_iconst 3 dX12_screensRead_2 rfl ?_
  refine zF_istore_n 4 (ls' := [(3, zI 0), (2, zI 0), (0, zR hm), (1, zI h)]) dX12_screensRead_3 rfl (by decide) rfl ?_
  refine zF_locs (ls' := (fun (i : Nat) => [(3, zI (i : Int)), (2, zI (zsum (fun s => zb (mS D s 0 = h)) i)), (0, zR hm), (1, zI h)]) 0) ⟨zlI rfl (by first | rfl | omega | (push_cast; omega) | exact congrArg (_ + ·) (zbT (by assumption)) | exact congrArg (_ + ·) (zbF (by assumption)) | exact congrArg (_ + ·) (zbT (by omega)) | exact congrArg (_ + ·) (zbF (by omega)) | exact congrArg (_ + ·) (if_pos (by omega)).symm | exact congrArg (_ + ·) (if_neg (by omega)).symm | exact (if_pos (by omega)).symm | exact (if_neg (by omega)).symm | exact zsub_s (if_pos (by omega)).symm | exact zsub_s0 (if_neg (by omega)).symm | exact zadd0 (if_neg (by omega)).symm | exact zadd0 (zbF (by omega)) | exact (Int.sub_zero _).symm), zlI rfl (by first | rfl | omega | (push_cast; omega) | exact congrArg (_ + ·) (zbT (by assumption)) | exact congrArg (_ + ·) (zbF (by assumption)) | exact congrArg (_ + ·) (zbT (by omega)) | exact congrArg (_ + ·) (zbF (by omega)) | exact congrArg (_ + ·) (if_pos (by omega)).symm | exact congrArg (_ + ·) (if_neg (by omega)).symm | exact (if_pos (by omega)).symm | exact (if_neg (by omega)).symm | exact zsub_s (if_pos (by omega)).symm | exact zsub_s0 (if_neg (by omega)).symm | exact zadd0 (if_neg (by omega)).symm | exact zadd0 (zbF (by omega)) | exact (Int.sub_zero _).symm), rfl, rfl, trivial⟩ ?_
  refine zF_loop (n := (nS D)) (fun (i : Nat) => [(3, zI (i : Int)), (2, zI (zsum (fun s => zb (mS D s 0 = h)) i)), (0, zR hm), (1, zI h)]) (fun _ => σ) (fun i hi ih4 => ?_) ?_
  · show zF G mX12_screensRead (d + 1) 4 [(3, zI (i : Int)), (2, zI (zsum (fun s => zb (mS D s 0 = h)) i)), (0, zR hm), (1, zI h)] [] σ _
    have hi : i < nS D := by assumption
    refine zF_iload_n 5 dX12_screensRead_4 rfl rfl ?_
    refine zF_aload_n 6 dX12_screensRead_5 rfl rfl ?_
    refine zF_getR 9 dX12_screensRead_6 rfl gX12_13 hM.1 hM.2.1 (zM_1 hM).1 ?_
    refine zF_iconst 10 dX12_screensRead_9 rfl ?_
    refine zF_iaload 11 dX12_screensRead_10 rfl (zM_1 hM).2.2 (zM_1 hM).2.1 (by omega) (by omega) (congrFun hD _) ?_
    refine zF_icmp_ge 42 14 dX12_screensRead_11 rfl rfl (by first | decide | assumption | exact hv.b _ | (constructor <;> omega)) (by first | decide | assumption | exact hv.b _ | (constructor <;> omega)) (fun c1 => ?_) (fun c1 => ?_)
    · exact absurd c1 (by omega)
    · refine zF_iload_n 15 dX12_screensRead_14 rfl rfl ?_
      refine zF_aload_n 16 dX12_screensRead_15 rfl rfl ?_
      refine zF_getR 19 dX12_screensRead_16 rfl gX12_13 hM.1 hM.2.1 (zM_1 hM).1 ?_
      refine zF_iload_n 20 dX12_screensRead_19 rfl rfl ?_
      refine zF_iconst 21 dX12_screensRead_20 rfl ?_
      refine zF_callSi 24 (d2 := d) (as := [zI (i : Int), zI 0]) dX12_screensRead_21 rfl kX12_96 sX12_screenAt (Nat.le_refl _) rfl rfl (Nat.le_of_ble_eq_true rfl) (zt_X12_screenAt) ?_
      refine zF_iaload 25 dX12_screensRead_24 rfl (zM_1 hM).2.2 (zM_1 hM).2.1 (by omega) (by omega) (show zia σ (A 1) (14 + 8 * (i : Int) + 0) = mS D (i : Int) 0 from congrFun hD _) ?_
      refine zF_iload_n 26 dX12_screensRead_25 rfl rfl ?_
      refine zF_icmp_ne 33 29 dX12_screensRead_26 rfl rfl (by first | decide | assumption | exact hv.b _ | (constructor <;> omega)) (by first | decide | assumption | exact hv.b _ | (constructor <;> omega)) (fun c2 => ?_) (fun c2 => ?_)
      · refine zF_iconst 34 dX12_screensRead_33 rfl ?_
        refine zF_iadd 35 dX12_screensRead_34 rfl ?_
        refine zF_istore_n 36 (ls' := [(2, zI ((zsum (fun s => zb (mS D s 0 = h)) i) + 0)), (3, zI (i : Int)), (0, zR hm), (1, zI h)]) dX12_screensRead_35 rfl (by decide) rfl ?_
        refine zF_iinc 39 (ls' := [(3, zI ((i : Int) + 1)), (2, zI ((zsum (fun s => zb (mS D s 0 = h)) i) + 0)), (0, zR hm), (1, zI h)]) dX12_screensRead_36 rfl rfl rfl (by decide) rfl ?_
        refine zF_goto 4 dX12_screensRead_39 rfl ?_
        exact zF_locs (ls' := [(3, zI ((i + 1 : Nat) : Int)), (2, zI (zsum (fun s => zb (mS D s 0 = h)) (i + 1))), (0, zR hm), (1, zI h)]) ⟨zlI rfl (by first | rfl | omega | (push_cast; omega) | exact congrArg (_ + ·) (zbT (by assumption)) | exact congrArg (_ + ·) (zbF (by assumption)) | exact congrArg (_ + ·) (zbT (by omega)) | exact congrArg (_ + ·) (zbF (by omega)) | exact congrArg (_ + ·) (if_pos (by omega)).symm | exact congrArg (_ + ·) (if_neg (by omega)).symm | exact (if_pos (by omega)).symm | exact (if_neg (by omega)).symm | exact zsub_s (if_pos (by omega)).symm | exact zsub_s0 (if_neg (by omega)).symm | exact zadd0 (if_neg (by omega)).symm | exact zadd0 (zbF (by omega)) | exact (Int.sub_zero _).symm), zlI rfl (by first | rfl | omega | (push_cast; omega) | exact congrArg (_ + ·) (zbT (by assumption)) | exact congrArg (_ + ·) (zbF (by assumption)) | exact congrArg (_ + ·) (zbT (by omega)) | exact congrArg (_ + ·) (zbF (by omega)) | exact congrArg (_ + ·) (if_pos (by omega)).symm | exact congrArg (_ + ·) (if_neg (by omega)).symm | exact (if_pos (by omega)).symm | exact (if_neg (by omega)).symm | exact zsub_s (if_pos (by omega)).symm | exact zsub_s0 (if_neg (by omega)).symm | exact zadd0 (if_neg (by omega)).symm | exact zadd0 (zbF (by omega)) | exact (Int.sub_zero _).symm), rfl, rfl, trivial⟩ ih4
      · refine zF_iconst 30 dX12_screensRead_29 rfl ?_
        refine zF_goto 34 dX12_screensRead_30 rfl ?_
        refine zF_iadd 35 dX12_screensRead_34 rfl ?_
        refine zF_istore_n 36 (ls' := [(2, zI ((zsum (fun s => zb (mS D s 0 = h)) i) + 1)), (3, zI (i : Int)), (0, zR hm), (1, zI h)]) dX12_screensRead_35 rfl (by decide) rfl ?_
        refine zF_iinc 39 (ls' := [(3, zI ((i : Int) + 1)), (2, zI ((zsum (fun s => zb (mS D s 0 = h)) i) + 1)), (0, zR hm), (1, zI h)]) dX12_screensRead_36 rfl rfl rfl (by decide) rfl ?_
        refine zF_goto 4 dX12_screensRead_39 rfl ?_
        exact zF_locs (ls' := [(3, zI ((i + 1 : Nat) : Int)), (2, zI (zsum (fun s => zb (mS D s 0 = h)) (i + 1))), (0, zR hm), (1, zI h)]) ⟨zlI rfl (by first | rfl | omega | (push_cast; omega) | exact congrArg (_ + ·) (zbT (by assumption)) | exact congrArg (_ + ·) (zbF (by assumption)) | exact congrArg (_ + ·) (zbT (by omega)) | exact congrArg (_ + ·) (zbF (by omega)) | exact congrArg (_ + ·) (if_pos (by omega)).symm | exact congrArg (_ + ·) (if_neg (by omega)).symm | exact (if_pos (by omega)).symm | exact (if_neg (by omega)).symm | exact zsub_s (if_pos (by omega)).symm | exact zsub_s0 (if_neg (by omega)).symm | exact zadd0 (if_neg (by omega)).symm | exact zadd0 (zbF (by omega)) | exact (Int.sub_zero _).symm), zlI rfl (by first | rfl | omega | (push_cast; omega) | exact congrArg (_ + ·) (zbT (by assumption)) | exact congrArg (_ + ·) (zbF (by assumption)) | exact congrArg (_ + ·) (zbT (by omega)) | exact congrArg (_ + ·) (zbF (by omega)) | exact congrArg (_ + ·) (if_pos (by omega)).symm | exact congrArg (_ + ·) (if_neg (by omega)).symm | exact (if_pos (by omega)).symm | exact (if_neg (by omega)).symm | exact zsub_s (if_pos (by omega)).symm | exact zsub_s0 (if_neg (by omega)).symm | exact zadd0 (if_neg (by omega)).symm | exact zadd0 (zbF (by omega)) | exact (Int.sub_zero _).symm), rfl, rfl, trivial⟩ ih4
  · show zF G mX12_screensRead (d + 1) 4 [(3, zI (((nS D) : Nat) : Int)), (2, zI (zsum (fun s => zb (mS D s 0 = h)) (nS D))), (0, zR hm), (1, zI h)] [] σ _
    refine zF_iload_n 5 dX12_screensRead_4 rfl rfl ?_
    refine zF_aload_n 6 dX12_screensRead_5 rfl rfl ?_
    refine zF_getR 9 dX12_screensRead_6 rfl gX12_13 hM.1 hM.2.1 (zM_1 hM).1 ?_
    refine zF_iconst 10 dX12_screensRead_9 rfl ?_
    refine zF_iaload 11 dX12_screensRead_10 rfl (zM_1 hM).2.2 (zM_1 hM).2.1 (by omega) (by omega) (congrFun hD _) ?_
    refine zF_icmp_ge 42 14 dX12_screensRead_11 rfl rfl (by first | decide | assumption | exact hv.b _ | (constructor <;> omega)) (by first | decide | assumption | exact hv.b _ | (constructor <;> omega)) (fun c3 => ?_) (fun c3 => ?_)
    · refine zF_iload_n 43 dX12_screensRead_42 rfl rfl ?_
      exact zF_iretP dX12_screensRead_43 rfl (rfl)
    · exact absurd c3 (by omega)
theorem zt_X12_readScreen  (hG : zOS G) (hM : zMo σ hm A) (hx : mTx σ A t L) (hs : mTs σ hm t L s) (hD : zia σ (A 1) = D) (hv : ldV D) (h0 : s.2 = 0) : zE G mX12_readScreen (d + 8) [zR hm] σ (fun ro σ1 => ro = .inl none ∧ zFr (mPl hm A) σ σ1 ∧ mTs σ1 hm t L (ldScreen t L (s, D)).1 ∧ ((ldScreen t L (s, D)).1.2 = 0 → zia σ1 (A 1) = (ldScreen t L (s, D)).2)) := by
  refine zE_of rfl (by simp [zcat]) (Nat.le_of_ble_eq_true rfl) ?_
  show zF G mX12_readScreen (d + 8) 0 [(0, zR hm)] [] σ _
  have hlt := mTs_lt hs
  have hl7 := hx.1
  have hn := hv.n
  have h1 : (tAdv t L s).2 = 0 := tAdv_2.trans h0
  have ha1 : (tAdv t L s).1 ≤ L := (tAdv_1 hs.1).2
  have uv := tuV_b (t := t) (L := L) (s := tAdv t L s) ha1
  have kb1 := tk_b t L (tAdv t L s).1
  have qc := mCn_b2 (D := D) (h := tuV t L (tAdv t L s).1) (n := nS D)
  have hnS : ((nS D : Nat) : Int) = D 1 := by unfold nS; omega
  refine zF_aload_n 1 dX12_readScreen_0 rfl rfl ?_
  refine zF_aload_n 2 dX12_readScreen_1 rfl rfl ?_
  refine zF_getR 5 dX12_readScreen_2 rfl gX12_13 hM.1 hM.2.1 (zM_1 hM).1 ?_
  refine zF_iconst 6 dX12_readScreen_5 rfl ?_
  refine zF_iaload 7 dX12_readScreen_6 rfl (zM_1 hM).2.2 (zM_1 hM).2.1 (by omega) (by omega) (congrFun hD _) ?_
  refine zF_bipush 9 dX12_readScreen_7 rfl (by decide) ?_
  refine zF_icmp_ge 16 12 dX12_readScreen_9 rfl rfl (by first | decide | assumption | exact hv.b _ | (constructor <;> omega)) (by first | decide | assumption | exact hv.b _ | (constructor <;> omega)) (fun c1 => ?_) (fun c1 => ?_)
  · refine zF_iconst 17 dX12_readScreen_16 rfl ?_
    refine zF_iconst 18 dX12_readScreen_17 rfl ?_
    refine zF_callV 21 (d2 := (d + 7)) (as := [zI 0, zI 3]) dX12_readScreen_18 rfl kX12_382 iX12_check (ci := 12) rfl eX12_check (Nat.le_refl _) hM.1 hM.2.1 rfl rfl (Nat.le_of_ble_eq_true rfl) (zE.mono (zt_X12_check (σ := σ) (P := False) (c := 3) hM hx hs rfl (by decide) (by decide)) fun ro σa1 hh1 => ?_)
    obtain ⟨er1, fr1, p1⟩ := hh1
    subst er1
    refine ⟨fr1.1, ?_⟩
    show zF G mX12_readScreen (d + 8) 21 [(0, zR hm)] [] σa1 _
    have hMa1 := zMo_f2 (σ := σ) fr1 hM
    have hxa1 := mTx_t (σ := σ) hM hx fr1
    have hs1a : mTs σa1 hm t L (s.1, 3) := mTs_to p1 ((if_neg id).trans (if_pos (by first | assumption | omega)) : (if False then s else tFail 3 s) = (s.1, 3))
    have hD1a : zia σa1 (A 1) = D := (mPt_A (σ := σ) hM fr1 (k := 1) (by decide)).trans hD
    have ebhs1a := hs1a.2.2.2.2.2.2.2
    refine zF_aload_n 22 dX12_readScreen_21 rfl rfl ?_
    refine zF_callV 25 (d2 := (d + 7)) (as := []) dX12_readScreen_22 rfl kX12_386 iX12_advance (ci := 12) rfl eX12_advance (Nat.le_refl _) hMa1.1 hMa1.2.1 rfl rfl (Nat.le_of_ble_eq_true rfl) (zE.mono (zt_X12_advance (σ := σa1) hMa1 hxa1 hs1a) fun ro σa2 hh2 => ?_)
    obtain ⟨er2, fr2, p2⟩ := hh2
    subst er2
    refine ⟨fr2.1, ?_⟩
    show zF G mX12_readScreen (d + 8) 25 [(0, zR hm)] [] σa2 _
    have hMa2 := zMo_f2 (σ := σa1) fr2 hMa1
    have hxa2 := mTx_t (σ := σa1) hMa1 hxa1 fr2
    have hs2a : mTs σa2 hm t L (s.1, 3) := mTs_to p2 (tAdv_e (by show ¬ (3 : Int) = 0; decide))
    have hD2a : zia σa2 (A 1) = D := (mPt_A (σ := σa1) hMa1 fr2 (k := 1) (by decide)).trans hD1a
    have ebhs2a := hs2a.2.2.2.2.2.2.2
    refine zF_aload_n 26 dX12_readScreen_25 rfl rfl ?_
    refine zF_aload_n 27 dX12_readScreen_26 rfl rfl ?_
    refine zF_getI 30 dX12_readScreen_27 rfl gX12_363 (by decide) (by decide) hMa2.1 hMa2.2.1 hs2a.2.2.2.2.2.1 ?_
    refine zF_if_ne 41 33 dX12_readScreen_30 rfl rfl (by first | decide | assumption | exact hv.b _ | (constructor <;> omega)) (fun c2 => ?_) (fun c2 => ?_)
    · refine zF_iconst 42 dX12_readScreen_41 rfl ?_
      refine zF_goto 46 dX12_readScreen_42 rfl ?_
      refine zF_iconst 47 dX12_readScreen_46 rfl ?_
      refine zF_callV 50 (d2 := (d + 7)) (as := [zI 1, zI 1]) dX12_readScreen_47 rfl kX12_382 iX12_check (ci := 12) rfl eX12_check (Nat.le_refl _) hMa2.1 hMa2.2.1 rfl rfl (Nat.le_of_ble_eq_true rfl) (zE.mono (zt_X12_check (σ := σa2) (P := True) (c := 1) hMa2 hxa2 hs2a rfl (by decide) (by decide)) fun ro σa3 hh3 => ?_)
      obtain ⟨er3, fr3, p3⟩ := hh3
      subst er3
      refine ⟨fr3.1, ?_⟩
      show zF G mX12_readScreen (d + 8) 50 [(0, zR hm)] [] σa3 _
      have hMa3 := zMo_f2 (σ := σa2) fr3 hMa2
      have hxa3 := mTx_t (σ := σa2) hMa2 hxa2 fr3
      have hs3a : mTs σa3 hm t L (s.1, 3) := mTs_to p3 (if_pos trivial)
      have hD3a : zia σa3 (A 1) = D := (mPt_A (σ := σa2) hMa2 fr3 (k := 1) (by decide)).trans hD2a
      have ebhs3a := hs3a.2.2.2.2.2.2.2
      refine zF_aload_n 51 dX12_readScreen_50 rfl rfl ?_
      refine zF_aload_n 52 dX12_readScreen_51 rfl rfl ?_
      refine zF_getI 55 dX12_readScreen_52 rfl gX12_363 (by decide) (by decide) hMa3.1 hMa3.2.1 hs3a.2.2.2.2.2.1 ?_
      refine zF_if_ne 77 58 dX12_readScreen_55 rfl rfl (by first | decide | assumption | exact hv.b _ | (constructor <;> omega)) (fun c3 => ?_) (fun c3 => ?_)
      · refine zF_iconst 78 dX12_readScreen_77 rfl ?_
        refine zF_goto 82 dX12_readScreen_78 rfl ?_
        refine zF_iconst 83 dX12_readScreen_82 rfl ?_
        refine zF_callV 86 (d2 := (d + 7)) (as := [zI 1, zI 2]) dX12_readScreen_83 rfl kX12_382 iX12_check (ci := 12) rfl eX12_check (Nat.le_refl _) hMa3.1 hMa3.2.1 rfl rfl (Nat.le_of_ble_eq_true rfl) (zE.mono (zt_X12_check (σ := σa3) (P := True) (c := 2) hMa3 hxa3 hs3a rfl (by decide) (by decide)) fun ro σa4 hh4 => ?_)
        obtain ⟨er4, fr4, p4⟩ := hh4
        subst er4
        refine ⟨fr4.1, ?_⟩
        show zF G mX12_readScreen (d + 8) 86 [(0, zR hm)] [] σa4 _
        have hMa4 := zMo_f2 (σ := σa3) fr4 hMa3
        have hxa4 := mTx_t (σ := σa3) hMa3 hxa3 fr4
        have hs4a : mTs σa4 hm t L (s.1, 3) := mTs_to p4 (if_pos trivial)
        have hD4a : zia σa4 (A 1) = D := (mPt_A (σ := σa3) hMa3 fr4 (k := 1) (by decide)).trans hD3a
        have ebhs4a := hs4a.2.2.2.2.2.2.2
        refine zF_aload_n 87 dX12_readScreen_86 rfl rfl ?_
        refine zF_aload_n 88 dX12_readScreen_87 rfl rfl ?_
        refine zF_getI 91 dX12_readScreen_88 rfl gX12_363 (by decide) (by decide) hMa4.1 hMa4.2.1 hs4a.2.2.2.2.2.1 ?_
        refine zF_if_ne 106 94 dX12_readScreen_91 rfl rfl (by first | decide | assumption | exact hv.b _ | (constructor <;> omega)) (fun c4 => ?_) (fun c4 => ?_)
        · refine zF_iconst 107 dX12_readScreen_106 rfl ?_
          refine zF_goto 111 dX12_readScreen_107 rfl ?_
          refine zF_iconst 112 dX12_readScreen_111 rfl ?_
          refine zF_callV 115 (d2 := (d + 7)) (as := [zI 1, zI 4]) dX12_readScreen_112 rfl kX12_382 iX12_check (ci := 12) rfl eX12_check (Nat.le_refl _) hMa4.1 hMa4.2.1 rfl rfl (Nat.le_of_ble_eq_true rfl) (zE.mono (zt_X12_check (σ := σa4) (P := True) (c := 4) hMa4 hxa4 hs4a rfl (by decide) (by decide)) fun ro σa5 hh5 => ?_)
          obtain ⟨er5, fr5, p5⟩ := hh5
          subst er5
          refine ⟨fr5.1, ?_⟩
          show zF G mX12_readScreen (d + 8) 115 [(0, zR hm)] [] σa5 _
          have hMa5 := zMo_f2 (σ := σa4) fr5 hMa4
          have hxa5 := mTx_t (σ := σa4) hMa4 hxa4 fr5
          have hs5a : mTs σa5 hm t L (s.1, 3) := mTs_to p5 (if_pos trivial)
          have hD5a : zia σa5 (A 1) = D := (mPt_A (σ := σa4) hMa4 fr5 (k := 1) (by decide)).trans hD4a
          have ebhs5a := hs5a.2.2.2.2.2.2.2
          refine zF_aload_n 116 dX12_readScreen_115 rfl rfl ?_
          refine zF_getI 119 dX12_readScreen_116 rfl gX12_363 (by decide) (by decide) hMa5.1 hMa5.2.1 hs5a.2.2.2.2.2.1 ?_
          refine zF_if_ne 129 122 dX12_readScreen_119 rfl rfl (by first | decide | assumption | exact hv.b _ | (constructor <;> omega)) (fun c5 => ?_) (fun c5 => ?_)
          · refine zF_iconst 130 dX12_readScreen_129 rfl ?_
            refine zF_istore_n 131 (ls' := [(1, zI 0), (0, zR hm)]) dX12_readScreen_130 rfl (by decide) rfl ?_
            refine zF_aload_n 132 dX12_readScreen_131 rfl rfl ?_
            refine zF_callV 135 (d2 := (d + 7)) (as := []) dX12_readScreen_132 rfl kX12_386 iX12_advance (ci := 12) rfl eX12_advance (Nat.le_refl _) hMa5.1 hMa5.2.1 rfl rfl (Nat.le_of_ble_eq_true rfl) (zE.mono (zt_X12_advance (σ := σa5) hMa5 hxa5 hs5a) fun ro σa6 hh6 => ?_)
            obtain ⟨er6, fr6, p6⟩ := hh6
            subst er6
            refine ⟨fr6.1, ?_⟩
            show zF G mX12_readScreen (d + 8) 135 [(1, zI 0), (0, zR hm)] [] σa6 _
            have hMa6 := zMo_f2 (σ := σa5) fr6 hMa5
            have hxa6 := mTx_t (σ := σa5) hMa5 hxa5 fr6
            have hs6a : mTs σa6 hm t L (s.1, 3) := mTs_to p6 (tAdv_e (by show ¬ (3 : Int) = 0; decide))
            have hD6a : zia σa6 (A 1) = D := (mPt_A (σ := σa5) hMa5 fr6 (k := 1) (by decide)).trans hD5a
            have ebhs6a := hs6a.2.2.2.2.2.2.2
            refine zF_aload_n 136 dX12_readScreen_135 rfl rfl ?_
            refine zF_iconst 137 dX12_readScreen_136 rfl ?_
            refine zF_sipush 140 dX12_readScreen_137 rfl (by decide) ?_
            refine zF_callV 143 (d2 := (d + 7)) (as := [zI 1, zI 500]) dX12_readScreen_140 rfl kX12_404 iX12_readNumber (ci := 12) rfl eX12_readNumber (Nat.le_refl _) hMa6.1 hMa6.2.1 rfl rfl (Nat.le_of_ble_eq_true rfl) (zE.mono (zt_X12_readNumber (σ := σa6) hMa6 hxa6 hs6a (by first | decide | assumption | exact hv.b _ | (constructor <;> omega)) (by first | decide | assumption | exact hv.b _ | (constructor <;> omega)) (by omega)) fun ro σa7 hh7 => ?_)
            obtain ⟨er7, fr7, p7⟩ := hh7
            subst er7
            refine ⟨fr7.1, ?_⟩
            show zF G mX12_readScreen (d + 8) 143 [(1, zI 0), (0, zR hm)] [zI (tNumV t L 1 500 (s.1, 3))] σa7 _
            have hMa7 := zMo_f2 (σ := σa6) fr7 hMa6
            have hxa7 := mTx_t (σ := σa6) hMa6 hxa6 fr7
            have hs7a : mTs σa7 hm t L (s.1, 3) := mTs_to p7 (tNumS_e (by show ¬ (3 : Int) = 0; decide))
            have hD7a : zia σa7 (A 1) = D := (mPt_A (σ := σa6) hMa6 fr7 (k := 1) (by decide)).trans hD6a
            have ebhs7a := hs7a.2.2.2.2.2.2.2
            refine zF_istore_n 144 (ls' := [(2, zI (tNumV t L 1 500 (s.1, 3))), (1, zI 0), (0, zR hm)]) dX12_readScreen_143 rfl (by decide) rfl ?_
            refine zF_aload_n 145 dX12_readScreen_144 rfl rfl ?_
            refine zF_iconst 146 dX12_readScreen_145 rfl ?_
            refine zF_bipush 148 dX12_readScreen_146 rfl (by decide) ?_
            refine zF_callV 151 (d2 := (d + 7)) (as := [zI 1, zI 6]) dX12_readScreen_148 rfl kX12_404 iX12_readNumber (ci := 12) rfl eX12_readNumber (Nat.le_refl _) hMa7.1 hMa7.2.1 rfl rfl (Nat.le_of_ble_eq_true rfl) (zE.mono (zt_X12_readNumber (σ := σa7) hMa7 hxa7 hs7a (by first | decide | assumption | exact hv.b _ | (constructor <;> omega)) (by first | decide | assumption | exact hv.b _ | (constructor <;> omega)) (by omega)) fun ro σa8 hh8 => ?_)
            obtain ⟨er8, fr8, p8⟩ := hh8
            subst er8
            refine ⟨fr8.1, ?_⟩
            show zF G mX12_readScreen (d + 8) 151 [(2, zI (tNumV t L 1 500 (s.1, 3))), (1, zI 0), (0, zR hm)] [zI (tNumV t L 1 6 (s.1, 3))] σa8 _
            have hMa8 := zMo_f2 (σ := σa7) fr8 hMa7
            have hxa8 := mTx_t (σ := σa7) hMa7 hxa7 fr8
            have hs8a : mTs σa8 hm t L (s.1, 3) := mTs_to p8 (tNumS_e (by show ¬ (3 : Int) = 0; decide))
            have hD8a : zia σa8 (A 1) = D := (mPt_A (σ := σa7) hMa7 fr8 (k := 1) (by decide)).trans hD7a
            have ebhs8a := hs8a.2.2.2.2.2.2.2
            refine zF_istore_n 152 (ls' := [(3, zI (tNumV t L 1 6 (s.1, 3))), (2, zI (tNumV t L 1 500 (s.1, 3))), (1, zI 0), (0, zR hm)]) dX12_readScreen_151 rfl (by decide) rfl ?_
            refine zF_aload_n 153 dX12_readScreen_152 rfl rfl ?_
            refine zF_iconst 154 dX12_readScreen_153 rfl ?_
            refine zF_sipush 157 dX12_readScreen_154 rfl (by decide) ?_
            refine zF_callV 160 (d2 := (d + 7)) (as := [zI 0, zI 9999]) dX12_readScreen_157 rfl kX12_404 iX12_readNumber (ci := 12) rfl eX12_readNumber (Nat.le_refl _) hMa8.1 hMa8.2.1 rfl rfl (Nat.le_of_ble_eq_true rfl) (zE.mono (zt_X12_readNumber (σ := σa8) hMa8 hxa8 hs8a (by first | decide | assumption | exact hv.b _ | (constructor <;> omega)) (by first | decide | assumption | exact hv.b _ | (constructor <;> omega)) (by omega)) fun ro σa9 hh9 => ?_)
            obtain ⟨er9, fr9, p9⟩ := hh9
            subst er9
            refine ⟨fr9.1, ?_⟩
            show zF G mX12_readScreen (d + 8) 160 [(3, zI (tNumV t L 1 6 (s.1, 3))), (2, zI (tNumV t L 1 500 (s.1, 3))), (1, zI 0), (0, zR hm)] [zI (tNumV t L 0 9999 (s.1, 3))] σa9 _
            have hMa9 := zMo_f2 (σ := σa8) fr9 hMa8
            have hxa9 := mTx_t (σ := σa8) hMa8 hxa8 fr9
            have hs9a : mTs σa9 hm t L (s.1, 3) := mTs_to p9 (tNumS_e (by show ¬ (3 : Int) = 0; decide))
            have hD9a : zia σa9 (A 1) = D := (mPt_A (σ := σa8) hMa8 fr9 (k := 1) (by decide)).trans hD8a
            have ebhs9a := hs9a.2.2.2.2.2.2.2
            refine zF_istore 162 (ls' := [(4, zI (tNumV t L 0 9999 (s.1, 3))), (3, zI (tNumV t L 1 6 (s.1, 3))), (2, zI (tNumV t L 1 500 (s.1, 3))), (1, zI 0), (0, zR hm)]) dX12_readScreen_160 rfl (by decide) rfl ?_
            refine zF_aload_n 163 dX12_readScreen_162 rfl rfl ?_
            refine zF_getI 166 dX12_readScreen_163 rfl gX12_363 (by decide) (by decide) hMa9.1 hMa9.2.1 hs9a.2.2.2.2.2.1 ?_
            refine zF_if_ne 249 169 dX12_readScreen_166 rfl rfl (by first | decide | assumption | exact hv.b _ | (constructor <;> omega)) (fun c6 => ?_) (fun c6 => ?_)
            · exact zF_return dX12_readScreen_249 rfl ((by
    have e : ldScreen t L (s, D) = ((s.1, 3), D) := (if_neg (by show ¬ D 1 < 10; omega)).trans (by rw [tFail_0 h0])
    rw [e]
    exact ⟨rfl, (((((((((mPl_t fr1).tr (mPl_t fr2)).tr (mPl_t fr3)).tr (mPl_t fr4)).tr (mPl_t fr5)).tr (mPl_t fr6)).tr (mPl_t fr7)).tr (mPl_t fr8)).tr (mPl_t fr9)), hs9a, fun _ => hD9a⟩))
            · exact absurd c6 (by first | decide | simp)
          · exact absurd c5 (by first | decide | simp)
        · exact absurd c4 (by first | decide | simp)
      · exact absurd c3 (by first | decide | simp)
    · exact absurd c2 (by first | decide | simp)
  · refine zF_iconst 13 dX12_readScreen_12 rfl ?_
    refine zF_goto 17 dX12_readScreen_13 rfl ?_
    refine zF_iconst 18 dX12_readScreen_17 rfl ?_
    refine zF_callV 21 (d2 := (d + 7)) (as := [zI 1, zI 3]) dX12_readScreen_18 rfl kX12_382 iX12_check (ci := 12) rfl eX12_check (Nat.le_refl _) hM.1 hM.2.1 rfl rfl (Nat.le_of_ble_eq_true rfl) (zE.mono (zt_X12_check (σ := σ) (P := True) (c := 3) hM hx hs rfl (by decide) (by decide)) fun ro σa10 hh10 => ?_)
    obtain ⟨er10, fr10, p10⟩ := hh10
    subst er10
    refine ⟨fr10.1, ?_⟩
    show zF G mX12_readScreen (d + 8) 21 [(0, zR hm)] [] σa10 _
    have hMa10 := zMo_f2 (σ := σ) fr10 hM
    have hxa10 := mTx_t (σ := σ) hM hx fr10
    have hs10a : mTs σa10 hm t L s := mTs_to p10 (if_pos trivial)
    have hD10a : zia σa10 (A 1) = D := (mPt_A (σ := σ) hM fr10 (k := 1) (by decide)).trans hD
    have ebhs10a := hs10a.2.2.2.2.2.2.2
    refine zF_aload_n 22 dX12_readScreen_21 rfl rfl ?_
    refine zF_callV 25 (d2 := (d + 7)) (as := []) dX12_readScreen_22 rfl kX12_386 iX12_advance (ci := 12) rfl eX12_advance (Nat.le_refl _) hMa10.1 hMa10.2.1 rfl rfl (Nat.le_of_ble_eq_true rfl) (zE.mono (zt_X12_advance (σ := σa10) hMa10 hxa10 hs10a) fun ro σa11 hh11 => ?_)
    obtain ⟨er11, fr11, p11⟩ := hh11
    subst er11
    refine ⟨fr11.1, ?_⟩
    show zF G mX12_readScreen (d + 8) 25 [(0, zR hm)] [] σa11 _
    have hMa11 := zMo_f2 (σ := σa10) fr11 hMa10
    have hxa11 := mTx_t (σ := σa10) hMa10 hxa10 fr11
    have hs11a : mTs σa11 hm t L (tAdv t L s) := p11
    have hD11a : zia σa11 (A 1) = D := (mPt_A (σ := σa10) hMa10 fr11 (k := 1) (by decide)).trans hD10a
    have ebhs11a := hs11a.2.2.2.2.2.2.2
    refine zF_aload_n 26 dX12_readScreen_25 rfl rfl ?_
    refine zF_aload_n 27 dX12_readScreen_26 rfl rfl ?_
    refine zF_getI 30 dX12_readScreen_27 rfl gX12_363 (by decide) (by decide) hMa11.1 hMa11.2.1 hs11a.2.2.2.2.2.1 ?_
    refine zF_if_ne 41 33 dX12_readScreen_30 rfl rfl (by first | decide | assumption | exact hv.b _ | (constructor <;> omega)) (fun c7 => ?_) (fun c7 => ?_)
    · exact absurd c7 (by first | assumption | omega)
    · refine zF_aload_n 34 dX12_readScreen_33 rfl rfl ?_
      refine zF_getI 37 dX12_readScreen_34 rfl gX12_354 (by decide) (by decide) hMa11.1 hMa11.2.1 hs11a.2.2.2.2.1 ?_
      refine zF_iconst 38 dX12_readScreen_37 rfl ?_
      refine zF_icmp_ne 45 41 dX12_readScreen_38 rfl rfl (by first | decide | assumption | exact hv.b _ | (constructor <;> omega)) (by first | decide | assumption | exact hv.b _ | (constructor <;> omega)) (fun c8 => ?_) (fun c8 => ?_)
      · refine zF_iconst 46 dX12_readScreen_45 rfl ?_
        refine zF_iconst 47 dX12_readScreen_46 rfl ?_
        refine zF_callV 50 (d2 := (d + 7)) (as := [zI 0, zI 1]) dX12_readScreen_47 rfl kX12_382 iX12_check (ci := 12) rfl eX12_check (Nat.le_refl _) hMa11.1 hMa11.2.1 rfl rfl (Nat.le_of_ble_eq_true rfl) (zE.mono (zt_X12_check (σ := σa11) (P := False) (c := 1) hMa11 hxa11 hs11a rfl (by decide) (by decide)) fun ro σa12 hh12 => ?_)
        obtain ⟨er12, fr12, p12⟩ := hh12
        subst er12
        refine ⟨fr12.1, ?_⟩
        show zF G mX12_readScreen (d + 8) 50 [(0, zR hm)] [] σa12 _
        have hMa12 := zMo_f2 (σ := σa11) fr12 hMa11
        have hxa12 := mTx_t (σ := σa11) hMa11 hxa11 fr12
        have hs12a : mTs σa12 hm t L ((tAdv t L s).1, 1) := mTs_to p12 ((if_neg id).trans (if_pos (by first | assumption | omega)) : (if False then (tAdv t L s) else tFail 1 (tAdv t L s)) = ((tAdv t L s).1, 1))
        have hD12a : zia σa12 (A 1) = D := (mPt_A (σ := σa11) hMa11 fr12 (k := 1) (by decide)).trans hD11a
        have ebhs12a := hs12a.2.2.2.2.2.2.2
        refine zF_aload_n 51 dX12_readScreen_50 rfl rfl ?_
        refine zF_aload_n 52 dX12_readScreen_51 rfl rfl ?_
        refine zF_getI 55 dX12_readScreen_52 rfl gX12_363 (by decide) (by decide) hMa12.1 hMa12.2.1 hs12a.2.2.2.2.2.1 ?_
        refine zF_if_ne 77 58 dX12_readScreen_55 rfl rfl (by first | decide | assumption | exact hv.b _ | (constructor <;> omega)) (fun c9 => ?_) (fun c9 => ?_)
        · refine zF_iconst 78 dX12_readScreen_77 rfl ?_
          refine zF_goto 82 dX12_readScreen_78 rfl ?_
          refine zF_iconst 83 dX12_readScreen_82 rfl ?_
          refine zF_callV 86 (d2 := (d + 7)) (as := [zI 1, zI 2]) dX12_readScreen_83 rfl kX12_382 iX12_check (ci := 12) rfl eX12_check (Nat.le_refl _) hMa12.1 hMa12.2.1 rfl rfl (Nat.le_of_ble_eq_true rfl) (zE.mono (zt_X12_check (σ := σa12) (P := True) (c := 2) hMa12 hxa12 hs12a rfl (by decide) (by decide)) fun ro σa13 hh13 => ?_)
          obtain ⟨er13, fr13, p13⟩ := hh13
          subst er13
          refine ⟨fr13.1, ?_⟩
          show zF G mX12_readScreen (d + 8) 86 [(0, zR hm)] [] σa13 _
          have hMa13 := zMo_f2 (σ := σa12) fr13 hMa12
          have hxa13 := mTx_t (σ := σa12) hMa12 hxa12 fr13
          have hs13a : mTs σa13 hm t L ((tAdv t L s).1, 1) := mTs_to p13 (if_pos trivial)
          have hD13a : zia σa13 (A 1) = D := (mPt_A (σ := σa12) hMa12 fr13 (k := 1) (by decide)).trans hD12a
          have ebhs13a := hs13a.2.2.2.2.2.2.2
          refine zF_aload_n 87 dX12_readScreen_86 rfl rfl ?_
          refine zF_aload_n 88 dX12_readScreen_87 rfl rfl ?_
          refine zF_getI 91 dX12_readScreen_88 rfl gX12_363 (by decide) (by decide) hMa13.1 hMa13.2.1 hs13a.2.2.2.2.2.1 ?_
          refine zF_if_ne 106 94 dX12_readScreen_91 rfl rfl (by first | decide | assumption | exact hv.b _ | (constructor <;> omega)) (fun c10 => ?_) (fun c10 => ?_)
          · refine zF_iconst 107 dX12_readScreen_106 rfl ?_
            refine zF_goto 111 dX12_readScreen_107 rfl ?_
            refine zF_iconst 112 dX12_readScreen_111 rfl ?_
            refine zF_callV 115 (d2 := (d + 7)) (as := [zI 1, zI 4]) dX12_readScreen_112 rfl kX12_382 iX12_check (ci := 12) rfl eX12_check (Nat.le_refl _) hMa13.1 hMa13.2.1 rfl rfl (Nat.le_of_ble_eq_true rfl) (zE.mono (zt_X12_check (σ := σa13) (P := True) (c := 4) hMa13 hxa13 hs13a rfl (by decide) (by decide)) fun ro σa14 hh14 => ?_)
            obtain ⟨er14, fr14, p14⟩ := hh14
            subst er14
            refine ⟨fr14.1, ?_⟩
            show zF G mX12_readScreen (d + 8) 115 [(0, zR hm)] [] σa14 _
            have hMa14 := zMo_f2 (σ := σa13) fr14 hMa13
            have hxa14 := mTx_t (σ := σa13) hMa13 hxa13 fr14
            have hs14a : mTs σa14 hm t L ((tAdv t L s).1, 1) := mTs_to p14 (if_pos trivial)
            have hD14a : zia σa14 (A 1) = D := (mPt_A (σ := σa13) hMa13 fr14 (k := 1) (by decide)).trans hD13a
            have ebhs14a := hs14a.2.2.2.2.2.2.2
            refine zF_aload_n 116 dX12_readScreen_115 rfl rfl ?_
            refine zF_getI 119 dX12_readScreen_116 rfl gX12_363 (by decide) (by decide) hMa14.1 hMa14.2.1 hs14a.2.2.2.2.2.1 ?_
            refine zF_if_ne 129 122 dX12_readScreen_119 rfl rfl (by first | decide | assumption | exact hv.b _ | (constructor <;> omega)) (fun c11 => ?_) (fun c11 => ?_)
            · refine zF_iconst 130 dX12_readScreen_129 rfl ?_
              refine zF_istore_n 131 (ls' := [(1, zI 0), (0, zR hm)]) dX12_readScreen_130 rfl (by decide) rfl ?_
              refine zF_aload_n 132 dX12_readScreen_131 rfl rfl ?_
              refine zF_callV 135 (d2 := (d + 7)) (as := []) dX12_readScreen_132 rfl kX12_386 iX12_advance (ci := 12) rfl eX12_advance (Nat.le_refl _) hMa14.1 hMa14.2.1 rfl rfl (Nat.le_of_ble_eq_true rfl) (zE.mono (zt_X12_advance (σ := σa14) hMa14 hxa14 hs14a) fun ro σa15 hh15 => ?_)
              obtain ⟨er15, fr15, p15⟩ := hh15
              subst er15
              refine ⟨fr15.1, ?_⟩
              show zF G mX12_readScreen (d + 8) 135 [(1, zI 0), (0, zR hm)] [] σa15 _
              have hMa15 := zMo_f2 (σ := σa14) fr15 hMa14
              have hxa15 := mTx_t (σ := σa14) hMa14 hxa14 fr15
              have hs15a : mTs σa15 hm t L ((tAdv t L s).1, 1) := mTs_to p15 (tAdv_e (by show ¬ (1 : Int) = 0; decide))
              have hD15a : zia σa15 (A 1) = D := (mPt_A (σ := σa14) hMa14 fr15 (k := 1) (by decide)).trans hD14a
              have ebhs15a := hs15a.2.2.2.2.2.2.2
              refine zF_aload_n 136 dX12_readScreen_135 rfl rfl ?_
              refine zF_iconst 137 dX12_readScreen_136 rfl ?_
              refine zF_sipush 140 dX12_readScreen_137 rfl (by decide) ?_
              refine zF_callV 143 (d2 := (d + 7)) (as := [zI 1, zI 500]) dX12_readScreen_140 rfl kX12_404 iX12_readNumber (ci := 12) rfl eX12_readNumber (Nat.le_refl _) hMa15.1 hMa15.2.1 rfl rfl (Nat.le_of_ble_eq_true rfl) (zE.mono (zt_X12_readNumber (σ := σa15) hMa15 hxa15 hs15a (by first | decide | assumption | exact hv.b _ | (constructor <;> omega)) (by first | decide | assumption | exact hv.b _ | (constructor <;> omega)) (by omega)) fun ro σa16 hh16 => ?_)
              obtain ⟨er16, fr16, p16⟩ := hh16
              subst er16
              refine ⟨fr16.1, ?_⟩
              show zF G mX12_readScreen (d + 8) 143 [(1, zI 0), (0, zR hm)] [zI (tNumV t L 1 500 ((tAdv t L s).1, 1))] σa16 _
              have hMa16 := zMo_f2 (σ := σa15) fr16 hMa15
              have hxa16 := mTx_t (σ := σa15) hMa15 hxa15 fr16
              have hs16a : mTs σa16 hm t L ((tAdv t L s).1, 1) := mTs_to p16 (tNumS_e (by show ¬ (1 : Int) = 0; decide))
              have hD16a : zia σa16 (A 1) = D := (mPt_A (σ := σa15) hMa15 fr16 (k := 1) (by decide)).trans hD15a
              have ebhs16a := hs16a.2.2.2.2.2.2.2
              refine zF_istore_n 144 (ls' := [(2, zI (tNumV t L 1 500 ((tAdv t L s).1, 1))), (1, zI 0), (0, zR hm)]) dX12_readScreen_143 rfl (by decide) rfl ?_
              refine zF_aload_n 145 dX12_readScreen_144 rfl rfl ?_
              refine zF_iconst 146 dX12_readScreen_145 rfl ?_
              refine zF_bipush 148 dX12_readScreen_146 rfl (by decide) ?_
              refine zF_callV 151 (d2 := (d + 7)) (as := [zI 1, zI 6]) dX12_readScreen_148 rfl kX12_404 iX12_readNumber (ci := 12) rfl eX12_readNumber (Nat.le_refl _) hMa16.1 hMa16.2.1 rfl rfl (Nat.le_of_ble_eq_true rfl) (zE.mono (zt_X12_readNumber (σ := σa16) hMa16 hxa16 hs16a (by first | decide | assumption | exact hv.b _ | (constructor <;> omega)) (by first | decide | assumption | exact hv.b _ | (constructor <;> omega)) (by omega)) fun ro σa17 hh17 => ?_)
              obtain ⟨er17, fr17, p17⟩ := hh17
              subst er17
              refine ⟨fr17.1, ?_⟩
              show zF G mX12_readScreen (d + 8) 151 [(2, zI (tNumV t L 1 500 ((tAdv t L s).1, 1))), (1, zI 0), (0, zR hm)] [zI (tNumV t L 1 6 ((tAdv t L s).1, 1))] σa17 _
              have hMa17 := zMo_f2 (σ := σa16) fr17 hMa16
              have hxa17 := mTx_t (σ := σa16) hMa16 hxa16 fr17
              have hs17a : mTs σa17 hm t L ((tAdv t L s).1, 1) := mTs_to p17 (tNumS_e (by show ¬ (1 : Int) = 0; decide))
              have hD17a : zia σa17 (A 1) = D := (mPt_A (σ := σa16) hMa16 fr17 (k := 1) (by decide)).trans hD16a
              have ebhs17a := hs17a.2.2.2.2.2.2.2
              refine zF_istore_n 152 (ls' := [(3, zI (tNumV t L 1 6 ((tAdv t L s).1, 1))), (2, zI (tNumV t L 1 500 ((tAdv t L s).1, 1))), (1, zI 0), (0, zR hm)]) dX12_readScreen_151 rfl (by decide) rfl ?_
              refine zF_aload_n 153 dX12_readScreen_152 rfl rfl ?_
              refine zF_iconst 154 dX12_readScreen_153 rfl ?_
              refine zF_sipush 157 dX12_readScreen_154 rfl (by decide) ?_
              refine zF_callV 160 (d2 := (d + 7)) (as := [zI 0, zI 9999]) dX12_readScreen_157 rfl kX12_404 iX12_readNumber (ci := 12) rfl eX12_readNumber (Nat.le_refl _) hMa17.1 hMa17.2.1 rfl rfl (Nat.le_of_ble_eq_true rfl) (zE.mono (zt_X12_readNumber (σ := σa17) hMa17 hxa17 hs17a (by first | decide | assumption | exact hv.b _ | (constructor <;> omega)) (by first | decide | assumption | exact hv.b _ | (constructor <;> omega)) (by omega)) fun ro σa18 hh18 => ?_)
              obtain ⟨er18, fr18, p18⟩ := hh18
              subst er18
              refine ⟨fr18.1, ?_⟩
              show zF G mX12_readScreen (d + 8) 160 [(3, zI (tNumV t L 1 6 ((tAdv t L s).1, 1))), (2, zI (tNumV t L 1 500 ((tAdv t L s).1, 1))), (1, zI 0), (0, zR hm)] [zI (tNumV t L 0 9999 ((tAdv t L s).1, 1))] σa18 _
              have hMa18 := zMo_f2 (σ := σa17) fr18 hMa17
              have hxa18 := mTx_t (σ := σa17) hMa17 hxa17 fr18
              have hs18a : mTs σa18 hm t L ((tAdv t L s).1, 1) := mTs_to p18 (tNumS_e (by show ¬ (1 : Int) = 0; decide))
              have hD18a : zia σa18 (A 1) = D := (mPt_A (σ := σa17) hMa17 fr18 (k := 1) (by decide)).trans hD17a
              have ebhs18a := hs18a.2.2.2.2.2.2.2
              refine zF_istore 162 (ls' := [(4, zI (tNumV t L 0 9999 ((tAdv t L s).1, 1))), (3, zI (tNumV t L 1 6 ((tAdv t L s).1, 1))), (2, zI (tNumV t L 1 500 ((tAdv t L s).1, 1))), (1, zI 0), (0, zR hm)]) dX12_readScreen_160 rfl (by decide) rfl ?_
              refine zF_aload_n 163 dX12_readScreen_162 rfl rfl ?_
              refine zF_getI 166 dX12_readScreen_163 rfl gX12_363 (by decide) (by decide) hMa18.1 hMa18.2.1 hs18a.2.2.2.2.2.1 ?_
              refine zF_if_ne 249 169 dX12_readScreen_166 rfl rfl (by first | decide | assumption | exact hv.b _ | (constructor <;> omega)) (fun c12 => ?_) (fun c12 => ?_)
              · exact zF_return dX12_readScreen_249 rfl ((by
    have z0 := tKd_0 (t := t) (L := L) h1
    skip
    have e2 : tHs t L D (tAdv t L s) = ((tAdv t L s).1, 1) := (if_pos (by omega)).trans (tFail_0 h1)
    have e : (ldScreen t L (s, D)).1 = ((tAdv t L s).1, 1) := by
      rw [ldScreen_s, if_pos (by omega), e2, tNumS_e (s := ((tAdv t L s).1, 1)) (by show (1 : Int) ≠ 0; decide), tNumS_e (s := ((tAdv t L s).1, 1)) (by show (1 : Int) ≠ 0; decide), tNumS_e (s := ((tAdv t L s).1, 1)) (by show (1 : Int) ≠ 0; decide)]
    rw [e]
    exact ⟨rfl, (((((((((mPl_t fr10).tr (mPl_t fr11)).tr (mPl_t fr12)).tr (mPl_t fr13)).tr (mPl_t fr14)).tr (mPl_t fr15)).tr (mPl_t fr16)).tr (mPl_t fr17)).tr (mPl_t fr18)), hs18a, fun z => absurd z (by show (1 : Int) ≠ 0; decide)⟩))
              · exact absurd c12 (by first | decide | simp)
            · exact absurd c11 (by first | decide | simp)
          · exact absurd c10 (by first | decide | simp)
        · exact absurd c9 (by first | decide | simp)
      · refine zF_iconst 42 dX12_readScreen_41 rfl ?_
        refine zF_goto 46 dX12_readScreen_42 rfl ?_
        refine zF_iconst 47 dX12_readScreen_46 rfl ?_
        refine zF_callV 50 (d2 := (d + 7)) (as := [zI 1, zI 1]) dX12_readScreen_47 rfl kX12_382 iX12_check (ci := 12) rfl eX12_check (Nat.le_refl _) hMa11.1 hMa11.2.1 rfl rfl (Nat.le_of_ble_eq_true rfl) (zE.mono (zt_X12_check (σ := σa11) (P := True) (c := 1) hMa11 hxa11 hs11a rfl (by decide) (by decide)) fun ro σa19 hh19 => ?_)
        obtain ⟨er19, fr19, p19⟩ := hh19
        subst er19
        refine ⟨fr19.1, ?_⟩
        show zF G mX12_readScreen (d + 8) 50 [(0, zR hm)] [] σa19 _
        have hMa19 := zMo_f2 (σ := σa11) fr19 hMa11
        have hxa19 := mTx_t (σ := σa11) hMa11 hxa11 fr19
        have hs19a : mTs σa19 hm t L (tAdv t L s) := mTs_to p19 (if_pos trivial)
        have hD19a : zia σa19 (A 1) = D := (mPt_A (σ := σa11) hMa11 fr19 (k := 1) (by decide)).trans hD11a
        have ebhs19a := hs19a.2.2.2.2.2.2.2
        refine zF_aload_n 51 dX12_readScreen_50 rfl rfl ?_
        refine zF_aload_n 52 dX12_readScreen_51 rfl rfl ?_
        refine zF_getI 55 dX12_readScreen_52 rfl gX12_363 (by decide) (by decide) hMa19.1 hMa19.2.1 hs19a.2.2.2.2.2.1 ?_
        refine zF_if_ne 77 58 dX12_readScreen_55 rfl rfl (by first | decide | assumption | exact hv.b _ | (constructor <;> omega)) (fun c13 => ?_) (fun c13 => ?_)
        · exact absurd c13 (by first | assumption | omega)
        · have k2 : tk t L (tAdv t L s).1 = 2 := by omega
          refine zF_aload_n 59 dX12_readScreen_58 rfl rfl ?_
          refine zF_callVi 62 (d2 := (d + 7)) (as := []) dX12_readScreen_59 rfl kX12_401 iX12_value (ci := 12) rfl eX12_value (Nat.le_refl _) hMa19.1 hMa19.2.1 rfl rfl (Nat.le_of_ble_eq_true rfl) (zt_X12_value (σ := σa19) hMa19 hxa19 hs19a) ?_
          refine zF_iconst 63 dX12_readScreen_62 rfl ?_
          refine zF_aload_n 64 dX12_readScreen_63 rfl rfl ?_
          refine zF_getR 67 dX12_readScreen_64 rfl gX12_13 hMa19.1 hMa19.2.1 (zM_1 hMa19).1 ?_
          refine zF_iconst 68 dX12_readScreen_67 rfl ?_
          refine zF_iaload 69 dX12_readScreen_68 rfl (zM_1 hMa19).2.2 (zM_1 hMa19).2.1 (by omega) (by omega) (congrFun hD19a _) ?_
          refine zF_iconst 70 dX12_readScreen_69 rfl ?_
          refine zF_isub 71 dX12_readScreen_70 rfl ?_
          refine zF_callSi 74 (d2 := (d + 7)) (as := [zI (tuV t L (tAdv t L s).1), zI 0, zI ((D 0) - 1)]) dX12_readScreen_71 rfl kX12_109 sX12_inRange (Nat.le_refl _) rfl rfl (Nat.le_of_ble_eq_true rfl) (zt_X12_inRange (by first | decide | assumption | exact hv.b _ | (constructor <;> omega)) (by first | decide | assumption | exact hv.b _ | (constructor <;> omega)) (by first | decide | assumption | exact hv.b _ | (constructor <;> omega))) ?_
          refine zF_ifb_eq 81 77 dX12_readScreen_74 rfl rfl (fun c14 => ?_) (fun c14 => ?_)
          · refine zF_iconst 82 dX12_readScreen_81 rfl ?_
            refine zF_iconst 83 dX12_readScreen_82 rfl ?_
            refine zF_callV 86 (d2 := (d + 7)) (as := [zI 0, zI 2]) dX12_readScreen_83 rfl kX12_382 iX12_check (ci := 12) rfl eX12_check (Nat.le_refl _) hMa19.1 hMa19.2.1 rfl rfl (Nat.le_of_ble_eq_true rfl) (zE.mono (zt_X12_check (σ := σa19) (P := False) (c := 2) hMa19 hxa19 hs19a rfl (by decide) (by decide)) fun ro σa20 hh20 => ?_)
            obtain ⟨er20, fr20, p20⟩ := hh20
            subst er20
            refine ⟨fr20.1, ?_⟩
            show zF G mX12_readScreen (d + 8) 86 [(0, zR hm)] [] σa20 _
            have hMa20 := zMo_f2 (σ := σa19) fr20 hMa19
            have hxa20 := mTx_t (σ := σa19) hMa19 hxa19 fr20
            have hs20a : mTs σa20 hm t L ((tAdv t L s).1, 2) := mTs_to p20 ((if_neg id).trans (if_pos (by first | assumption | omega)) : (if False then (tAdv t L s) else tFail 2 (tAdv t L s)) = ((tAdv t L s).1, 2))
            have hD20a : zia σa20 (A 1) = D := (mPt_A (σ := σa19) hMa19 fr20 (k := 1) (by decide)).trans hD19a
            have ebhs20a := hs20a.2.2.2.2.2.2.2
            refine zF_aload_n 87 dX12_readScreen_86 rfl rfl ?_
            refine zF_aload_n 88 dX12_readScreen_87 rfl rfl ?_
            refine zF_getI 91 dX12_readScreen_88 rfl gX12_363 (by decide) (by decide) hMa20.1 hMa20.2.1 hs20a.2.2.2.2.2.1 ?_
            refine zF_if_ne 106 94 dX12_readScreen_91 rfl rfl (by first | decide | assumption | exact hv.b _ | (constructor <;> omega)) (fun c15 => ?_) (fun c15 => ?_)
            · refine zF_iconst 107 dX12_readScreen_106 rfl ?_
              refine zF_goto 111 dX12_readScreen_107 rfl ?_
              refine zF_iconst 112 dX12_readScreen_111 rfl ?_
              refine zF_callV 115 (d2 := (d + 7)) (as := [zI 1, zI 4]) dX12_readScreen_112 rfl kX12_382 iX12_check (ci := 12) rfl eX12_check (Nat.le_refl _) hMa20.1 hMa20.2.1 rfl rfl (Nat.le_of_ble_eq_true rfl) (zE.mono (zt_X12_check (σ := σa20) (P := True) (c := 4) hMa20 hxa20 hs20a rfl (by decide) (by decide)) fun ro σa21 hh21 => ?_)
              obtain ⟨er21, fr21, p21⟩ := hh21
              subst er21
              refine ⟨fr21.1, ?_⟩
              show zF G mX12_readScreen (d + 8) 115 [(0, zR hm)] [] σa21 _
              have hMa21 := zMo_f2 (σ := σa20) fr21 hMa20
              have hxa21 := mTx_t (σ := σa20) hMa20 hxa20 fr21
              have hs21a : mTs σa21 hm t L ((tAdv t L s).1, 2) := mTs_to p21 (if_pos trivial)
              have hD21a : zia σa21 (A 1) = D := (mPt_A (σ := σa20) hMa20 fr21 (k := 1) (by decide)).trans hD20a
              have ebhs21a := hs21a.2.2.2.2.2.2.2
              refine zF_aload_n 116 dX12_readScreen_115 rfl rfl ?_
              refine zF_getI 119 dX12_readScreen_116 rfl gX12_363 (by decide) (by decide) hMa21.1 hMa21.2.1 hs21a.2.2.2.2.2.1 ?_
              refine zF_if_ne 129 122 dX12_readScreen_119 rfl rfl (by first | decide | assumption | exact hv.b _ | (constructor <;> omega)) (fun c16 => ?_) (fun c16 => ?_)
              · refine zF_iconst 130 dX12_readScreen_129 rfl ?_
                refine zF_istore_n 131 (ls' := [(1, zI 0), (0, zR hm)]) dX12_readScreen_130 rfl (by decide) rfl ?_
                refine zF_aload_n 132 dX12_readScreen_131 rfl rfl ?_
                refine zF_callV 135 (d2 := (d + 7)) (as := []) dX12_readScreen_132 rfl kX12_386 iX12_advance (ci := 12) rfl eX12_advance (Nat.le_refl _) hMa21.1 hMa21.2.1 rfl rfl (Nat.le_of_ble_eq_true rfl) (zE.mono (zt_X12_advance (σ := σa21) hMa21 hxa21 hs21a) fun ro σa22 hh22 => ?_)
                obtain ⟨er22, fr22, p22⟩ := hh22
                subst er22
                refine ⟨fr22.1, ?_⟩
                show zF G mX12_readScreen (d + 8) 135 [(1, zI 0), (0, zR hm)] [] σa22 _
                have hMa22 := zMo_f2 (σ := σa21) fr22 hMa21
                have hxa22 := mTx_t (σ := σa21) hMa21 hxa21 fr22
                have hs22a : mTs σa22 hm t L ((tAdv t L s).1, 2) := mTs_to p22 (tAdv_e (by show ¬ (2 : Int) = 0; decide))
                have hD22a : zia σa22 (A 1) = D := (mPt_A (σ := σa21) hMa21 fr22 (k := 1) (by decide)).trans hD21a
                have ebhs22a := hs22a.2.2.2.2.2.2.2
                refine zF_aload_n 136 dX12_readScreen_135 rfl rfl ?_
                refine zF_iconst 137 dX12_readScreen_136 rfl ?_
                refine zF_sipush 140 dX12_readScreen_137 rfl (by decide) ?_
                refine zF_callV 143 (d2 := (d + 7)) (as := [zI 1, zI 500]) dX12_readScreen_140 rfl kX12_404 iX12_readNumber (ci := 12) rfl eX12_readNumber (Nat.le_refl _) hMa22.1 hMa22.2.1 rfl rfl (Nat.le_of_ble_eq_true rfl) (zE.mono (zt_X12_readNumber (σ := σa22) hMa22 hxa22 hs22a (by first | decide | assumption | exact hv.b _ | (constructor <;> omega)) (by first | decide | assumption | exact hv.b _ | (constructor <;> omega)) (by omega)) fun ro σa23 hh23 => ?_)
                obtain ⟨er23, fr23, p23⟩ := hh23
                subst er23
                refine ⟨fr23.1, ?_⟩
                show zF G mX12_readScreen (d + 8) 143 [(1, zI 0), (0, zR hm)] [zI (tNumV t L 1 500 ((tAdv t L s).1, 2))] σa23 _
                have hMa23 := zMo_f2 (σ := σa22) fr23 hMa22
                have hxa23 := mTx_t (σ := σa22) hMa22 hxa22 fr23
                have hs23a : mTs σa23 hm t L ((tAdv t L s).1, 2) := mTs_to p23 (tNumS_e (by show ¬ (2 : Int) = 0; decide))
                have hD23a : zia σa23 (A 1) = D := (mPt_A (σ := σa22) hMa22 fr23 (k := 1) (by decide)).trans hD22a
                have ebhs23a := hs23a.2.2.2.2.2.2.2
                refine zF_istore_n 144 (ls' := [(2, zI (tNumV t L 1 500 ((tAdv t L s).1, 2))), (1, zI 0), (0, zR hm)]) dX12_readScreen_143 rfl (by decide) rfl ?_
                refine zF_aload_n 145 dX12_readScreen_144 rfl rfl ?_
                refine zF_iconst 146 dX12_readScreen_145 rfl ?_
                refine zF_bipush 148 dX12_readScreen_146 rfl (by decide) ?_
                refine zF_callV 151 (d2 := (d + 7)) (as := [zI 1, zI 6]) dX12_readScreen_148 rfl kX12_404 iX12_readNumber (ci := 12) rfl eX12_readNumber (Nat.le_refl _) hMa23.1 hMa23.2.1 rfl rfl (Nat.le_of_ble_eq_true rfl) (zE.mono (zt_X12_readNumber (σ := σa23) hMa23 hxa23 hs23a (by first | decide | assumption | exact hv.b _ | (constructor <;> omega)) (by first | decide | assumption | exact hv.b _ | (constructor <;> omega)) (by omega)) fun ro σa24 hh24 => ?_)
                obtain ⟨er24, fr24, p24⟩ := hh24
                subst er24
                refine ⟨fr24.1, ?_⟩
                show zF G mX12_readScreen (d + 8) 151 [(2, zI (tNumV t L 1 500 ((tAdv t L s).1, 2))), (1, zI 0), (0, zR hm)] [zI (tNumV t L 1 6 ((tAdv t L s).1, 2))] σa24 _
                have hMa24 := zMo_f2 (σ := σa23) fr24 hMa23
                have hxa24 := mTx_t (σ := σa23) hMa23 hxa23 fr24
                have hs24a : mTs σa24 hm t L ((tAdv t L s).1, 2) := mTs_to p24 (tNumS_e (by show ¬ (2 : Int) = 0; decide))
                have hD24a : zia σa24 (A 1) = D := (mPt_A (σ := σa23) hMa23 fr24 (k := 1) (by decide)).trans hD23a
                have ebhs24a := hs24a.2.2.2.2.2.2.2
                refine zF_istore_n 152 (ls' := [(3, zI (tNumV t L 1 6 ((tAdv t L s).1, 2))), (2, zI (tNumV t L 1 500 ((tAdv t L s).1, 2))), (1, zI 0), (0, zR hm)]) dX12_readScreen_151 rfl (by decide) rfl ?_
                refine zF_aload_n 153 dX12_readScreen_152 rfl rfl ?_
                refine zF_iconst 154 dX12_readScreen_153 rfl ?_
                refine zF_sipush 157 dX12_readScreen_154 rfl (by decide) ?_
                refine zF_callV 160 (d2 := (d + 7)) (as := [zI 0, zI 9999]) dX12_readScreen_157 rfl kX12_404 iX12_readNumber (ci := 12) rfl eX12_readNumber (Nat.le_refl _) hMa24.1 hMa24.2.1 rfl rfl (Nat.le_of_ble_eq_true rfl) (zE.mono (zt_X12_readNumber (σ := σa24) hMa24 hxa24 hs24a (by first | decide | assumption | exact hv.b _ | (constructor <;> omega)) (by first | decide | assumption | exact hv.b _ | (constructor <;> omega)) (by omega)) fun ro σa25 hh25 => ?_)
                obtain ⟨er25, fr25, p25⟩ := hh25
                subst er25
                refine ⟨fr25.1, ?_⟩
                show zF G mX12_readScreen (d + 8) 160 [(3, zI (tNumV t L 1 6 ((tAdv t L s).1, 2))), (2, zI (tNumV t L 1 500 ((tAdv t L s).1, 2))), (1, zI 0), (0, zR hm)] [zI (tNumV t L 0 9999 ((tAdv t L s).1, 2))] σa25 _
                have hMa25 := zMo_f2 (σ := σa24) fr25 hMa24
                have hxa25 := mTx_t (σ := σa24) hMa24 hxa24 fr25
                have hs25a : mTs σa25 hm t L ((tAdv t L s).1, 2) := mTs_to p25 (tNumS_e (by show ¬ (2 : Int) = 0; decide))
                have hD25a : zia σa25 (A 1) = D := (mPt_A (σ := σa24) hMa24 fr25 (k := 1) (by decide)).trans hD24a
                have ebhs25a := hs25a.2.2.2.2.2.2.2
                refine zF_istore 162 (ls' := [(4, zI (tNumV t L 0 9999 ((tAdv t L s).1, 2))), (3, zI (tNumV t L 1 6 ((tAdv t L s).1, 2))), (2, zI (tNumV t L 1 500 ((tAdv t L s).1, 2))), (1, zI 0), (0, zR hm)]) dX12_readScreen_160 rfl (by decide) rfl ?_
                refine zF_aload_n 163 dX12_readScreen_162 rfl rfl ?_
                refine zF_getI 166 dX12_readScreen_163 rfl gX12_363 (by decide) (by decide) hMa25.1 hMa25.2.1 hs25a.2.2.2.2.2.1 ?_
                refine zF_if_ne 249 169 dX12_readScreen_166 rfl rfl (by first | decide | assumption | exact hv.b _ | (constructor <;> omega)) (fun c17 => ?_) (fun c17 => ?_)
                · exact zF_return dX12_readScreen_249 rfl ((by
    have z0 := tKd_0 (t := t) (L := L) h1
    have q := tuV_tv (t := t) (L := L) (s := tAdv t L s) (lo := 0) (hi := D 0 - 1) ha1 (by omega) (by omega)
    have e2 : tHs t L D (tAdv t L s) = ((tAdv t L s).1, 2) := ((if_neg (by omega)).trans (if_pos (by omega))).trans (tFail_0 h1)
    have e : (ldScreen t L (s, D)).1 = ((tAdv t L s).1, 2) := by
      rw [ldScreen_s, if_pos (by omega), e2, tNumS_e (s := ((tAdv t L s).1, 2)) (by show (2 : Int) ≠ 0; decide), tNumS_e (s := ((tAdv t L s).1, 2)) (by show (2 : Int) ≠ 0; decide), tNumS_e (s := ((tAdv t L s).1, 2)) (by show (2 : Int) ≠ 0; decide)]
    rw [e]
    exact ⟨rfl, (((((((((mPl_t fr10).tr (mPl_t fr11)).tr (mPl_t fr19)).tr (mPl_t fr20)).tr (mPl_t fr21)).tr (mPl_t fr22)).tr (mPl_t fr23)).tr (mPl_t fr24)).tr (mPl_t fr25)), hs25a, fun z => absurd z (by show (2 : Int) ≠ 0; decide)⟩))
                · exact absurd c17 (by first | decide | simp)
              · exact absurd c16 (by first | decide | simp)
            · exact absurd c15 (by first | decide | simp)
          · refine zF_iconst 78 dX12_readScreen_77 rfl ?_
            refine zF_goto 82 dX12_readScreen_78 rfl ?_
            refine zF_iconst 83 dX12_readScreen_82 rfl ?_
            refine zF_callV 86 (d2 := (d + 7)) (as := [zI 1, zI 2]) dX12_readScreen_83 rfl kX12_382 iX12_check (ci := 12) rfl eX12_check (Nat.le_refl _) hMa19.1 hMa19.2.1 rfl rfl (Nat.le_of_ble_eq_true rfl) (zE.mono (zt_X12_check (σ := σa19) (P := True) (c := 2) hMa19 hxa19 hs19a rfl (by decide) (by decide)) fun ro σa26 hh26 => ?_)
            obtain ⟨er26, fr26, p26⟩ := hh26
            subst er26
            refine ⟨fr26.1, ?_⟩
            show zF G mX12_readScreen (d + 8) 86 [(0, zR hm)] [] σa26 _
            have hMa26 := zMo_f2 (σ := σa19) fr26 hMa19
            have hxa26 := mTx_t (σ := σa19) hMa19 hxa19 fr26
            have hs26a : mTs σa26 hm t L (tAdv t L s) := mTs_to p26 (if_pos trivial)
            have hD26a : zia σa26 (A 1) = D := (mPt_A (σ := σa19) hMa19 fr26 (k := 1) (by decide)).trans hD19a
            have ebhs26a := hs26a.2.2.2.2.2.2.2
            refine zF_aload_n 87 dX12_readScreen_86 rfl rfl ?_
            refine zF_aload_n 88 dX12_readScreen_87 rfl rfl ?_
            refine zF_getI 91 dX12_readScreen_88 rfl gX12_363 (by decide) (by decide) hMa26.1 hMa26.2.1 hs26a.2.2.2.2.2.1 ?_
            refine zF_if_ne 106 94 dX12_readScreen_91 rfl rfl (by first | decide | assumption | exact hv.b _ | (constructor <;> omega)) (fun c18 => ?_) (fun c18 => ?_)
            · exact absurd c18 (by first | assumption | omega)
            · refine zF_aload_n 95 dX12_readScreen_94 rfl rfl ?_
              refine zF_aload_n 96 dX12_readScreen_95 rfl rfl ?_
              refine zF_callVi 99 (d2 := (d + 7)) (as := []) dX12_readScreen_96 rfl kX12_401 iX12_value (ci := 12) rfl eX12_value (Nat.le_refl _) hMa26.1 hMa26.2.1 rfl rfl (Nat.le_of_ble_eq_true rfl) (zt_X12_value (σ := σa26) hMa26 hxa26 hs26a) ?_
              refine zF_callVi 102 (d2 := (d + 7)) (as := [zI (tuV t L (tAdv t L s).1)]) dX12_readScreen_99 rfl kX12_407 iX12_screensRead (ci := 12) rfl eX12_screensRead (Nat.le_refl _) hMa26.1 hMa26.2.1 rfl rfl (Nat.le_of_ble_eq_true rfl) (zt_X12_screensRead (σ := σa26) hMa26 hD26a hv (by first | decide | assumption | exact hv.b _ | (constructor <;> omega))) ?_
              refine zF_iconst 103 dX12_readScreen_102 rfl ?_
              refine zF_icmp_ge 110 106 dX12_readScreen_103 rfl rfl (by first | decide | assumption | exact hv.b _ | (constructor <;> omega)) (by first | decide | assumption | exact hv.b _ | (constructor <;> omega)) (fun c19 => ?_) (fun c19 => ?_)
              · refine zF_iconst 111 dX12_readScreen_110 rfl ?_
                refine zF_iconst 112 dX12_readScreen_111 rfl ?_
                refine zF_callV 115 (d2 := (d + 7)) (as := [zI 0, zI 4]) dX12_readScreen_112 rfl kX12_382 iX12_check (ci := 12) rfl eX12_check (Nat.le_refl _) hMa26.1 hMa26.2.1 rfl rfl (Nat.le_of_ble_eq_true rfl) (zE.mono (zt_X12_check (σ := σa26) (P := False) (c := 4) hMa26 hxa26 hs26a rfl (by decide) (by decide)) fun ro σa27 hh27 => ?_)
                obtain ⟨er27, fr27, p27⟩ := hh27
                subst er27
                refine ⟨fr27.1, ?_⟩
                show zF G mX12_readScreen (d + 8) 115 [(0, zR hm)] [] σa27 _
                have hMa27 := zMo_f2 (σ := σa26) fr27 hMa26
                have hxa27 := mTx_t (σ := σa26) hMa26 hxa26 fr27
                have hs27a : mTs σa27 hm t L ((tAdv t L s).1, 4) := mTs_to p27 ((if_neg id).trans (if_pos (by first | assumption | omega)) : (if False then (tAdv t L s) else tFail 4 (tAdv t L s)) = ((tAdv t L s).1, 4))
                have hD27a : zia σa27 (A 1) = D := (mPt_A (σ := σa26) hMa26 fr27 (k := 1) (by decide)).trans hD26a
                have ebhs27a := hs27a.2.2.2.2.2.2.2
                refine zF_aload_n 116 dX12_readScreen_115 rfl rfl ?_
                refine zF_getI 119 dX12_readScreen_116 rfl gX12_363 (by decide) (by decide) hMa27.1 hMa27.2.1 hs27a.2.2.2.2.2.1 ?_
                refine zF_if_ne 129 122 dX12_readScreen_119 rfl rfl (by first | decide | assumption | exact hv.b _ | (constructor <;> omega)) (fun c20 => ?_) (fun c20 => ?_)
                · refine zF_iconst 130 dX12_readScreen_129 rfl ?_
                  refine zF_istore_n 131 (ls' := [(1, zI 0), (0, zR hm)]) dX12_readScreen_130 rfl (by decide) rfl ?_
                  refine zF_aload_n 132 dX12_readScreen_131 rfl rfl ?_
                  refine zF_callV 135 (d2 := (d + 7)) (as := []) dX12_readScreen_132 rfl kX12_386 iX12_advance (ci := 12) rfl eX12_advance (Nat.le_refl _) hMa27.1 hMa27.2.1 rfl rfl (Nat.le_of_ble_eq_true rfl) (zE.mono (zt_X12_advance (σ := σa27) hMa27 hxa27 hs27a) fun ro σa28 hh28 => ?_)
                  obtain ⟨er28, fr28, p28⟩ := hh28
                  subst er28
                  refine ⟨fr28.1, ?_⟩
                  show zF G mX12_readScreen (d + 8) 135 [(1, zI 0), (0, zR hm)] [] σa28 _
                  have hMa28 := zMo_f2 (σ := σa27) fr28 hMa27
                  have hxa28 := mTx_t (σ := σa27) hMa27 hxa27 fr28
                  have hs28a : mTs σa28 hm t L ((tAdv t L s).1, 4) := mTs_to p28 (tAdv_e (by show ¬ (4 : Int) = 0; decide))
                  have hD28a : zia σa28 (A 1) = D := (mPt_A (σ := σa27) hMa27 fr28 (k := 1) (by decide)).trans hD27a
                  have ebhs28a := hs28a.2.2.2.2.2.2.2
                  refine zF_aload_n 136 dX12_readScreen_135 rfl rfl ?_
                  refine zF_iconst 137 dX12_readScreen_136 rfl ?_
                  refine zF_sipush 140 dX12_readScreen_137 rfl (by decide) ?_
                  refine zF_callV 143 (d2 := (d + 7)) (as := [zI 1, zI 500]) dX12_readScreen_140 rfl kX12_404 iX12_readNumber (ci := 12) rfl eX12_readNumber (Nat.le_refl _) hMa28.1 hMa28.2.1 rfl rfl (Nat.le_of_ble_eq_true rfl) (zE.mono (zt_X12_readNumber (σ := σa28) hMa28 hxa28 hs28a (by first | decide | assumption | exact hv.b _ | (constructor <;> omega)) (by first | decide | assumption | exact hv.b _ | (constructor <;> omega)) (by omega)) fun ro σa29 hh29 => ?_)
                  obtain ⟨er29, fr29, p29⟩ := hh29
                  subst er29
                  refine ⟨fr29.1, ?_⟩
                  show zF G mX12_readScreen (d + 8) 143 [(1, zI 0), (0, zR hm)] [zI (tNumV t L 1 500 ((tAdv t L s).1, 4))] σa29 _
                  have hMa29 := zMo_f2 (σ := σa28) fr29 hMa28
                  have hxa29 := mTx_t (σ := σa28) hMa28 hxa28 fr29
                  have hs29a : mTs σa29 hm t L ((tAdv t L s).1, 4) := mTs_to p29 (tNumS_e (by show ¬ (4 : Int) = 0; decide))
                  have hD29a : zia σa29 (A 1) = D := (mPt_A (σ := σa28) hMa28 fr29 (k := 1) (by decide)).trans hD28a
                  have ebhs29a := hs29a.2.2.2.2.2.2.2
                  refine zF_istore_n 144 (ls' := [(2, zI (tNumV t L 1 500 ((tAdv t L s).1, 4))), (1, zI 0), (0, zR hm)]) dX12_readScreen_143 rfl (by decide) rfl ?_
                  refine zF_aload_n 145 dX12_readScreen_144 rfl rfl ?_
                  refine zF_iconst 146 dX12_readScreen_145 rfl ?_
                  refine zF_bipush 148 dX12_readScreen_146 rfl (by decide) ?_
                  refine zF_callV 151 (d2 := (d + 7)) (as := [zI 1, zI 6]) dX12_readScreen_148 rfl kX12_404 iX12_readNumber (ci := 12) rfl eX12_readNumber (Nat.le_refl _) hMa29.1 hMa29.2.1 rfl rfl (Nat.le_of_ble_eq_true rfl) (zE.mono (zt_X12_readNumber (σ := σa29) hMa29 hxa29 hs29a (by first | decide | assumption | exact hv.b _ | (constructor <;> omega)) (by first | decide | assumption | exact hv.b _ | (constructor <;> omega)) (by omega)) fun ro σa30 hh30 => ?_)
                  obtain ⟨er30, fr30, p30⟩ := hh30
                  subst er30
                  refine ⟨fr30.1, ?_⟩
                  show zF G mX12_readScreen (d + 8) 151 [(2, zI (tNumV t L 1 500 ((tAdv t L s).1, 4))), (1, zI 0), (0, zR hm)] [zI (tNumV t L 1 6 ((tAdv t L s).1, 4))] σa30 _
                  have hMa30 := zMo_f2 (σ := σa29) fr30 hMa29
                  have hxa30 := mTx_t (σ := σa29) hMa29 hxa29 fr30
                  have hs30a : mTs σa30 hm t L ((tAdv t L s).1, 4) := mTs_to p30 (tNumS_e (by show ¬ (4 : Int) = 0; decide))
                  have hD30a : zia σa30 (A 1) = D := (mPt_A (σ := σa29) hMa29 fr30 (k := 1) (by decide)).trans hD29a
                  have ebhs30a := hs30a.2.2.2.2.2.2.2
                  refine zF_istore_n 152 (ls' := [(3, zI (tNumV t L 1 6 ((tAdv t L s).1, 4))), (2, zI (tNumV t L 1 500 ((tAdv t L s).1, 4))), (1, zI 0), (0, zR hm)]) dX12_readScreen_151 rfl (by decide) rfl ?_
                  refine zF_aload_n 153 dX12_readScreen_152 rfl rfl ?_
                  refine zF_iconst 154 dX12_readScreen_153 rfl ?_
                  refine zF_sipush 157 dX12_readScreen_154 rfl (by decide) ?_
                  refine zF_callV 160 (d2 := (d + 7)) (as := [zI 0, zI 9999]) dX12_readScreen_157 rfl kX12_404 iX12_readNumber (ci := 12) rfl eX12_readNumber (Nat.le_refl _) hMa30.1 hMa30.2.1 rfl rfl (Nat.le_of_ble_eq_true rfl) (zE.mono (zt_X12_readNumber (σ := σa30) hMa30 hxa30 hs30a (by first | decide | assumption | exact hv.b _ | (constructor <;> omega)) (by first | decide | assumption | exact hv.b _ | (constructor <;> omega)) (by omega)) fun ro σa31 hh31 => ?_)
                  obtain ⟨er31, fr31, p31⟩ := hh31
                  subst er31
                  refine ⟨fr31.1, ?_⟩
                  show zF G mX12_readScreen (d + 8) 160 [(3, zI (tNumV t L 1 6 ((tAdv t L s).1, 4))), (2, zI (tNumV t L 1 500 ((tAdv t L s).1, 4))), (1, zI 0), (0, zR hm)] [zI (tNumV t L 0 9999 ((tAdv t L s).1, 4))] σa31 _
                  have hMa31 := zMo_f2 (σ := σa30) fr31 hMa30
                  have hxa31 := mTx_t (σ := σa30) hMa30 hxa30 fr31
                  have hs31a : mTs σa31 hm t L ((tAdv t L s).1, 4) := mTs_to p31 (tNumS_e (by show ¬ (4 : Int) = 0; decide))
                  have hD31a : zia σa31 (A 1) = D := (mPt_A (σ := σa30) hMa30 fr31 (k := 1) (by decide)).trans hD30a
                  have ebhs31a := hs31a.2.2.2.2.2.2.2
                  refine zF_istore 162 (ls' := [(4, zI (tNumV t L 0 9999 ((tAdv t L s).1, 4))), (3, zI (tNumV t L 1 6 ((tAdv t L s).1, 4))), (2, zI (tNumV t L 1 500 ((tAdv t L s).1, 4))), (1, zI 0), (0, zR hm)]) dX12_readScreen_160 rfl (by decide) rfl ?_
                  refine zF_aload_n 163 dX12_readScreen_162 rfl rfl ?_
                  refine zF_getI 166 dX12_readScreen_163 rfl gX12_363 (by decide) (by decide) hMa31.1 hMa31.2.1 hs31a.2.2.2.2.2.1 ?_
                  refine zF_if_ne 249 169 dX12_readScreen_166 rfl rfl (by first | decide | assumption | exact hv.b _ | (constructor <;> omega)) (fun c21 => ?_) (fun c21 => ?_)
                  · exact zF_return dX12_readScreen_249 rfl ((by
    have z0 := tKd_0 (t := t) (L := L) h1
    have q := tuV_tv (t := t) (L := L) (s := tAdv t L s) (lo := 0) (hi := D 0 - 1) ha1 (by omega) (by omega)
    have e2 : tHs t L D (tAdv t L s) = ((tAdv t L s).1, 4) := ((if_neg (by omega)).trans ((if_neg (by omega)).trans (if_neg (by rw [show tv t L (tAdv t L s).1 = tuV t L (tAdv t L s).1 by omega]; omega)))).trans (tFail_0 h1)
    have e : (ldScreen t L (s, D)).1 = ((tAdv t L s).1, 4) := by
      rw [ldScreen_s, if_pos (by omega), e2, tNumS_e (s := ((tAdv t L s).1, 4)) (by show (4 : Int) ≠ 0; decide), tNumS_e (s := ((tAdv t L s).1, 4)) (by show (4 : Int) ≠ 0; decide), tNumS_e (s := ((tAdv t L s).1, 4)) (by show (4 : Int) ≠ 0; decide)]
    rw [e]
    exact ⟨rfl, (((((((((mPl_t fr10).tr (mPl_t fr11)).tr (mPl_t fr19)).tr (mPl_t fr26)).tr (mPl_t fr27)).tr (mPl_t fr28)).tr (mPl_t fr29)).tr (mPl_t fr30)).tr (mPl_t fr31)), hs31a, fun z => absurd z (by show (4 : Int) ≠ 0; decide)⟩))
                  · exact absurd c21 (by first | decide | simp)
                · exact absurd c20 (by first | decide | simp)
              · refine zF_iconst 107 dX12_readScreen_106 rfl ?_
                refine zF_goto 111 dX12_readScreen_107 rfl ?_
                refine zF_iconst 112 dX12_readScreen_111 rfl ?_
                refine zF_callV 115 (d2 := (d + 7)) (as := [zI 1, zI 4]) dX12_readScreen_112 rfl kX12_382 iX12_check (ci := 12) rfl eX12_check (Nat.le_refl _) hMa26.1 hMa26.2.1 rfl rfl (Nat.le_of_ble_eq_true rfl) (zE.mono (zt_X12_check (σ := σa26) (P := True) (c := 4) hMa26 hxa26 hs26a rfl (by decide) (by decide)) fun ro σa32 hh32 => ?_)
                obtain ⟨er32, fr32, p32⟩ := hh32
                subst er32
                refine ⟨fr32.1, ?_⟩
                show zF G mX12_readScreen (d + 8) 115 [(0, zR hm)] [] σa32 _
                have hMa32 := zMo_f2 (σ := σa26) fr32 hMa26
                have hxa32 := mTx_t (σ := σa26) hMa26 hxa26 fr32
                have hs32a : mTs σa32 hm t L (tAdv t L s) := mTs_to p32 (if_pos trivial)
                have hD32a : zia σa32 (A 1) = D := (mPt_A (σ := σa26) hMa26 fr32 (k := 1) (by decide)).trans hD26a
                have ebhs32a := hs32a.2.2.2.2.2.2.2
                refine zF_aload_n 116 dX12_readScreen_115 rfl rfl ?_
                refine zF_getI 119 dX12_readScreen_116 rfl gX12_363 (by decide) (by decide) hMa32.1 hMa32.2.1 hs32a.2.2.2.2.2.1 ?_
                refine zF_if_ne 129 122 dX12_readScreen_119 rfl rfl (by first | decide | assumption | exact hv.b _ | (constructor <;> omega)) (fun c22 => ?_) (fun c22 => ?_)
                · exact absurd c22 (by first | assumption | omega)
                · have q := tuV_tv (t := t) (L := L) (s := tAdv t L s) (lo := 0) (hi := D 0 - 1) ha1 k2 (by omega)
                  have hTv : tv t L (tAdv t L s).1 = tuV t L (tAdv t L s).1 := by omega
                  have z0 := tKd_0 (t := t) (L := L) h1
                  have hHs : tAdv t L (tAdv t L s) = tHs t L D (tAdv t L s) := ((if_neg (by omega)).trans ((if_neg (by omega)).trans (if_pos (by rw [hTv]; omega)))).symm
                  refine zF_aload_n 123 dX12_readScreen_122 rfl rfl ?_
                  refine zF_callVi 126 (d2 := (d + 7)) (as := []) dX12_readScreen_123 rfl kX12_401 iX12_value (ci := 12) rfl eX12_value (Nat.le_refl _) hMa32.1 hMa32.2.1 rfl rfl (Nat.le_of_ble_eq_true rfl) (zt_X12_value (σ := σa32) hMa32 hxa32 hs32a) ?_
                  refine zF_goto 130 dX12_readScreen_126 rfl ?_
                  refine zF_istore_n 131 (ls' := [(1, zI (tuV t L (tAdv t L s).1)), (0, zR hm)]) dX12_readScreen_130 rfl (by decide) rfl ?_
                  refine zF_aload_n 132 dX12_readScreen_131 rfl rfl ?_
                  refine zF_callV 135 (d2 := (d + 7)) (as := []) dX12_readScreen_132 rfl kX12_386 iX12_advance (ci := 12) rfl eX12_advance (Nat.le_refl _) hMa32.1 hMa32.2.1 rfl rfl (Nat.le_of_ble_eq_true rfl) (zE.mono (zt_X12_advance (σ := σa32) hMa32 hxa32 hs32a) fun ro σa33 hh33 => ?_)
                  obtain ⟨er33, fr33, p33⟩ := hh33
                  subst er33
                  refine ⟨fr33.1, ?_⟩
                  show zF G mX12_readScreen (d + 8) 135 [(1, zI (tuV t L (tAdv t L s).1)), (0, zR hm)] [] σa33 _
                  have hMa33 := zMo_f2 (σ := σa32) fr33 hMa32
                  have hxa33 := mTx_t (σ := σa32) hMa32 hxa32 fr33
                  have hs33a : mTs σa33 hm t L (tHs t L D (tAdv t L s)) := mTs_to p33 hHs
                  have hD33a : zia σa33 (A 1) = D := (mPt_A (σ := σa32) hMa32 fr33 (k := 1) (by decide)).trans hD32a
                  have ebhs33a := hs33a.2.2.2.2.2.2.2
                  refine zF_aload_n 136 dX12_readScreen_135 rfl rfl ?_
                  refine zF_iconst 137 dX12_readScreen_136 rfl ?_
                  refine zF_sipush 140 dX12_readScreen_137 rfl (by decide) ?_
                  refine zF_callV 143 (d2 := (d + 7)) (as := [zI 1, zI 500]) dX12_readScreen_140 rfl kX12_404 iX12_readNumber (ci := 12) rfl eX12_readNumber (Nat.le_refl _) hMa33.1 hMa33.2.1 rfl rfl (Nat.le_of_ble_eq_true rfl) (zE.mono (zt_X12_readNumber (σ := σa33) hMa33 hxa33 hs33a (by first | decide | assumption | exact hv.b _ | (constructor <;> omega)) (by first | decide | assumption | exact hv.b _ | (constructor <;> omega)) (by omega)) fun ro σa34 hh34 => ?_)
                  obtain ⟨er34, fr34, p34⟩ := hh34
                  subst er34
                  refine ⟨fr34.1, ?_⟩
                  show zF G mX12_readScreen (d + 8) 143 [(1, zI (tuV t L (tAdv t L s).1)), (0, zR hm)] [zI (tNumV t L 1 500 (tHs t L D (tAdv t L s)))] σa34 _
                  have hMa34 := zMo_f2 (σ := σa33) fr34 hMa33
                  have hxa34 := mTx_t (σ := σa33) hMa33 hxa33 fr34
                  have hs34a : mTs σa34 hm t L (tNumS t L 1 500 (tHs t L D (tAdv t L s))) := p34
                  have hD34a : zia σa34 (A 1) = D := (mPt_A (σ := σa33) hMa33 fr34 (k := 1) (by decide)).trans hD33a
                  have ebhs34a := hs34a.2.2.2.2.2.2.2
                  refine zF_istore_n 144 (ls' := [(2, zI (tNumV t L 1 500 (tHs t L D (tAdv t L s)))), (1, zI (tuV t L (tAdv t L s).1)), (0, zR hm)]) dX12_readScreen_143 rfl (by decide) rfl ?_
                  refine zF_aload_n 145 dX12_readScreen_144 rfl rfl ?_
                  refine zF_iconst 146 dX12_readScreen_145 rfl ?_
                  refine zF_bipush 148 dX12_readScreen_146 rfl (by decide) ?_
                  refine zF_callV 151 (d2 := (d + 7)) (as := [zI 1, zI 6]) dX12_readScreen_148 rfl kX12_404 iX12_readNumber (ci := 12) rfl eX12_readNumber (Nat.le_refl _) hMa34.1 hMa34.2.1 rfl rfl (Nat.le_of_ble_eq_true rfl) (zE.mono (zt_X12_readNumber (σ := σa34) hMa34 hxa34 hs34a (by first | decide | assumption | exact hv.b _ | (constructor <;> omega)) (by first | decide | assumption | exact hv.b _ | (constructor <;> omega)) (by omega)) fun ro σa35 hh35 => ?_)
                  obtain ⟨er35, fr35, p35⟩ := hh35
                  subst er35
                  refine ⟨fr35.1, ?_⟩
                  show zF G mX12_readScreen (d + 8) 151 [(2, zI (tNumV t L 1 500 (tHs t L D (tAdv t L s)))), (1, zI (tuV t L (tAdv t L s).1)), (0, zR hm)] [zI (tNumV t L 1 6 (tNumS t L 1 500 (tHs t L D (tAdv t L s))))] σa35 _
                  have hMa35 := zMo_f2 (σ := σa34) fr35 hMa34
                  have hxa35 := mTx_t (σ := σa34) hMa34 hxa34 fr35
                  have hs35a : mTs σa35 hm t L (tNumS t L 1 6 (tNumS t L 1 500 (tHs t L D (tAdv t L s)))) := p35
                  have hD35a : zia σa35 (A 1) = D := (mPt_A (σ := σa34) hMa34 fr35 (k := 1) (by decide)).trans hD34a
                  have ebhs35a := hs35a.2.2.2.2.2.2.2
                  refine zF_istore_n 152 (ls' := [(3, zI (tNumV t L 1 6 (tNumS t L 1 500 (tHs t L D (tAdv t L s))))), (2, zI (tNumV t L 1 500 (tHs t L D (tAdv t L s)))), (1, zI (tuV t L (tAdv t L s).1)), (0, zR hm)]) dX12_readScreen_151 rfl (by decide) rfl ?_
                  refine zF_aload_n 153 dX12_readScreen_152 rfl rfl ?_
                  refine zF_iconst 154 dX12_readScreen_153 rfl ?_
                  refine zF_sipush 157 dX12_readScreen_154 rfl (by decide) ?_
                  refine zF_callV 160 (d2 := (d + 7)) (as := [zI 0, zI 9999]) dX12_readScreen_157 rfl kX12_404 iX12_readNumber (ci := 12) rfl eX12_readNumber (Nat.le_refl _) hMa35.1 hMa35.2.1 rfl rfl (Nat.le_of_ble_eq_true rfl) (zE.mono (zt_X12_readNumber (σ := σa35) hMa35 hxa35 hs35a (by first | decide | assumption | exact hv.b _ | (constructor <;> omega)) (by first | decide | assumption | exact hv.b _ | (constructor <;> omega)) (by omega)) fun ro σa36 hh36 => ?_)
                  obtain ⟨er36, fr36, p36⟩ := hh36
                  subst er36
                  refine ⟨fr36.1, ?_⟩
                  show zF G mX12_readScreen (d + 8) 160 [(3, zI (tNumV t L 1 6 (tNumS t L 1 500 (tHs t L D (tAdv t L s))))), (2, zI (tNumV t L 1 500 (tHs t L D (tAdv t L s)))), (1, zI (tuV t L (tAdv t L s).1)), (0, zR hm)] [zI (tNumV t L 0 9999 (tNumS t L 1 6 (tNumS t L 1 500 (tHs t L D (tAdv t L s)))))] σa36 _
                  have hMa36 := zMo_f2 (σ := σa35) fr36 hMa35
                  have hxa36 := mTx_t (σ := σa35) hMa35 hxa35 fr36
                  have hs36a : mTs σa36 hm t L (tNumS t L 0 9999 (tNumS t L 1 6 (tNumS t L 1 500 (tHs t L D (tAdv t L s))))) := p36
                  have hD36a : zia σa36 (A 1) = D := (mPt_A (σ := σa35) hMa35 fr36 (k := 1) (by decide)).trans hD35a
                  have ebhs36a := hs36a.2.2.2.2.2.2.2
                  refine zF_istore 162 (ls' := [(4, zI (tNumV t L 0 9999 (tNumS t L 1 6 (tNumS t L 1 500 (tHs t L D (tAdv t L s)))))), (3, zI (tNumV t L 1 6 (tNumS t L 1 500 (tHs t L D (tAdv t L s))))), (2, zI (tNumV t L 1 500 (tHs t L D (tAdv t L s)))), (1, zI (tuV t L (tAdv t L s).1)), (0, zR hm)]) dX12_readScreen_160 rfl (by decide) rfl ?_
                  refine zF_aload_n 163 dX12_readScreen_162 rfl rfl ?_
                  refine zF_getI 166 dX12_readScreen_163 rfl gX12_363 (by decide) (by decide) hMa36.1 hMa36.2.1 hs36a.2.2.2.2.2.1 ?_
                  refine zF_if_ne 249 169 dX12_readScreen_166 rfl rfl (by first | decide | assumption | exact hv.b _ | (constructor <;> omega)) (fun c23 => ?_) (fun c23 => ?_)
                  · exact zF_return dX12_readScreen_249 rfl ((by
    have e : (ldScreen t L (s, D)).1 = (tNumS t L 0 9999 (tNumS t L 1 6 (tNumS t L 1 500 (tHs t L D (tAdv t L s))))) := ldScreen_s.trans (if_pos (by omega))
    rw [e]
    exact ⟨rfl, (((((((((mPl_t fr10).tr (mPl_t fr11)).tr (mPl_t fr19)).tr (mPl_t fr26)).tr (mPl_t fr32)).tr (mPl_t fr33)).tr (mPl_t fr34)).tr (mPl_t fr35)).tr (mPl_t fr36)), hs36a, fun z => absurd z (by omega)⟩))
                  · refine zF_aload_n 170 dX12_readScreen_169 rfl rfl ?_
                    refine zF_getR 173 dX12_readScreen_170 rfl gX12_13 hMa36.1 hMa36.2.1 (zM_1 hMa36).1 ?_
                    refine zF_iconst 174 dX12_readScreen_173 rfl ?_
                    refine zF_iaload 175 dX12_readScreen_174 rfl (zM_1 hMa36).2.2 (zM_1 hMa36).2.1 (by omega) (by omega) (congrFun hD36a _) ?_
                    refine zF_istore 177 (ls' := [(5, zI (D 1)), (4, zI (tNumV t L 0 9999 (tNumS t L 1 6 (tNumS t L 1 500 (tHs t L D (tAdv t L s)))))), (3, zI (tNumV t L 1 6 (tNumS t L 1 500 (tHs t L D (tAdv t L s))))), (2, zI (tNumV t L 1 500 (tHs t L D (tAdv t L s)))), (1, zI (tuV t L (tAdv t L s).1)), (0, zR hm)]) dX12_readScreen_175 rfl (by decide) rfl ?_
                    refine zF_aload_n 178 dX12_readScreen_177 rfl rfl ?_
                    refine zF_getR 181 dX12_readScreen_178 rfl gX12_13 hMa36.1 hMa36.2.1 (zM_1 hMa36).1 ?_
                    refine zF_iload 183 dX12_readScreen_181 rfl rfl ?_
                    refine zF_iconst 184 dX12_readScreen_183 rfl ?_
                    refine zF_callSi 187 (d2 := (d + 7)) (as := [zI (D 1), zI 0]) dX12_readScreen_184 rfl kX12_96 sX12_screenAt (Nat.le_refl _) rfl rfl (Nat.le_of_ble_eq_true rfl) (zt_X12_screenAt) ?_
                    refine zF_iload_n 188 dX12_readScreen_187 rfl rfl ?_
                    refine zF_iastore 189 dX12_readScreen_188 rfl (zM_1 hMa36).2.2 (zM_1 hMa36).2.1 (by omega) (by omega) ?_
                    refine zF_aload_n 190 dX12_readScreen_189 rfl rfl ?_
                    refine zF_getR 193 dX12_readScreen_190 rfl gX12_13 hMa36.1 hMa36.2.1 (zM_1 hMa36).1 ?_
                    refine zF_iload 195 dX12_readScreen_193 rfl rfl ?_
                    refine zF_iconst 196 dX12_readScreen_195 rfl ?_
                    refine zF_callSi 199 (d2 := (d + 7)) (as := [zI (D 1), zI 1]) dX12_readScreen_196 rfl kX12_96 sX12_screenAt (Nat.le_refl _) rfl rfl (Nat.le_of_ble_eq_true rfl) (zt_X12_screenAt) ?_
                    refine zF_iload_n 200 dX12_readScreen_199 rfl rfl ?_
                    refine zF_iastore 201 dX12_readScreen_200 rfl (zM_1 hMa36).2.2 (zM_1 hMa36).2.1 (by omega) (by omega) ?_
                    refine zF_aload_n 202 dX12_readScreen_201 rfl rfl ?_
                    refine zF_getR 205 dX12_readScreen_202 rfl gX12_13 hMa36.1 hMa36.2.1 (zM_1 hMa36).1 ?_
                    refine zF_iload 207 dX12_readScreen_205 rfl rfl ?_
                    refine zF_iconst 208 dX12_readScreen_207 rfl ?_
                    refine zF_callSi 211 (d2 := (d + 7)) (as := [zI (D 1), zI 2]) dX12_readScreen_208 rfl kX12_96 sX12_screenAt (Nat.le_refl _) rfl rfl (Nat.le_of_ble_eq_true rfl) (zt_X12_screenAt) ?_
                    refine zF_iload_n 212 dX12_readScreen_211 rfl rfl ?_
                    refine zF_iastore 213 dX12_readScreen_212 rfl (zM_1 hMa36).2.2 (zM_1 hMa36).2.1 (by omega) (by omega) ?_
                    refine zF_aload_n 214 dX12_readScreen_213 rfl rfl ?_
                    refine zF_getR 217 dX12_readScreen_214 rfl gX12_13 hMa36.1 hMa36.2.1 (zM_1 hMa36).1 ?_
                    refine zF_iload 219 dX12_readScreen_217 rfl rfl ?_
                    refine zF_iconst 220 dX12_readScreen_219 rfl ?_
                    refine zF_callSi 223 (d2 := (d + 7)) (as := [zI (D 1), zI 3]) dX12_readScreen_220 rfl kX12_96 sX12_screenAt (Nat.le_refl _) rfl rfl (Nat.le_of_ble_eq_true rfl) (zt_X12_screenAt) ?_
                    refine zF_iload 225 dX12_readScreen_223 rfl rfl ?_
                    refine zF_iastore 226 dX12_readScreen_225 rfl (zM_1 hMa36).2.2 (zM_1 hMa36).2.1 (by omega) (by omega) ?_
                    refine zF_aload_n 227 dX12_readScreen_226 rfl rfl ?_
                    refine zF_getR 230 dX12_readScreen_227 rfl gX12_13 hMa36.1 hMa36.2.1 (zM_1 hMa36).1 ?_
                    refine zF_iload 232 dX12_readScreen_230 rfl rfl ?_
                    refine zF_iconst 233 dX12_readScreen_232 rfl ?_
                    refine zF_iconst 234 dX12_readScreen_233 rfl ?_
                    refine zF_iconst 235 dX12_readScreen_234 rfl ?_
                    refine zF_iconst 236 dX12_readScreen_235 rfl ?_
                    refine zF_callS 239 (d2 := (d + 7)) (as := [zR (A 1), zI (D 1), zI (-1), zI (-1), zI 0, zI 0]) dX12_readScreen_236 rfl kX12_274 sX12_book (Nat.le_refl _) rfl rfl (Nat.le_of_ble_eq_true rfl) (zE.mono (zt_X12_book (σ := (zsi (zsi (zsi (zsi σa36 (A 1) (14 + 8 * (D 1) + 0) (tuV t L (tAdv t L s).1)) (A 1) (14 + 8 * (D 1) + 1) (tNumV t L 1 500 (tHs t L D (tAdv t L s)))) (A 1) (14 + 8 * (D 1) + 2) (tNumV t L 1 6 (tNumS t L 1 500 (tHs t L D (tAdv t L s))))) (A 1) (14 + 8 * (D 1) + 3) (tNumV t L 0 9999 (tNumS t L 1 6 (tNumS t L 1 500 (tHs t L D (tAdv t L s))))))) (zM_1 hMa36).2.2 (zM_1 hMa36).2.1 (by omega) (by omega) (Or.inl rfl)) fun ro σa37 hh37 => ?_)
                    obtain ⟨er37, fr37, p37⟩ := hh37
                    subst er37
                    refine ⟨fr37.1, ?_⟩
                    show zF G mX12_readScreen (d + 8) 239 [(5, zI (D 1)), (4, zI (tNumV t L 0 9999 (tNumS t L 1 6 (tNumS t L 1 500 (tHs t L D (tAdv t L s)))))), (3, zI (tNumV t L 1 6 (tNumS t L 1 500 (tHs t L D (tAdv t L s))))), (2, zI (tNumV t L 1 500 (tHs t L D (tAdv t L s)))), (1, zI (tuV t L (tAdv t L s).1)), (0, zR hm)] [] σa37 _
                    have hMa37 := zMo_f2 fr37 hMa36
                    have hxa37 : mTx σa37 A t L := mTx_fr (σ := (zsi (zsi (zsi (zsi σa36 (A 1) (14 + 8 * (D 1) + 0) (tuV t L (tAdv t L s).1)) (A 1) (14 + 8 * (D 1) + 1) (tNumV t L 1 500 (tHs t L D (tAdv t L s)))) (A 1) (14 + 8 * (D 1) + 2) (tNumV t L 1 6 (tNumS t L 1 500 (tHs t L D (tAdv t L s))))) (A 1) (14 + 8 * (D 1) + 3) (tNumV t L 0 9999 (tNumS t L 1 6 (tNumS t L 1 500 (tHs t L D (tAdv t L s))))))) (mTx_A (σ := (zsi (zsi (zsi σa36 (A 1) (14 + 8 * (D 1) + 0) (tuV t L (tAdv t L s).1)) (A 1) (14 + 8 * (D 1) + 1) (tNumV t L 1 500 (tHs t L D (tAdv t L s)))) (A 1) (14 + 8 * (D 1) + 2) (tNumV t L 1 6 (tNumS t L 1 500 (tHs t L D (tAdv t L s)))))) (k := 1) hMa36 (by decide) (by decide) (mTx_A (σ := (zsi (zsi σa36 (A 1) (14 + 8 * (D 1) + 0) (tuV t L (tAdv t L s).1)) (A 1) (14 + 8 * (D 1) + 1) (tNumV t L 1 500 (tHs t L D (tAdv t L s))))) (k := 1) hMa36 (by decide) (by decide) (mTx_A (σ := (zsi σa36 (A 1) (14 + 8 * (D 1) + 0) (tuV t L (tAdv t L s).1))) (k := 1) hMa36 (by decide) (by decide) (mTx_A (σ := σa36) (k := 1) hMa36 (by decide) (by decide) hxa36)))) fr37 fun j q => zMo_ne (σ := (zsi (zsi (zsi (zsi σa36 (A 1) (14 + 8 * (D 1) + 0) (tuV t L (tAdv t L s).1)) (A 1) (14 + 8 * (D 1) + 1) (tNumV t L 1 500 (tHs t L D (tAdv t L s)))) (A 1) (14 + 8 * (D 1) + 2) (tNumV t L 1 6 (tNumS t L 1 500 (tHs t L D (tAdv t L s))))) (A 1) (14 + 8 * (D 1) + 3) (tNumV t L 0 9999 (tNumS t L 1 6 (tNumS t L 1 500 (tHs t L D (tAdv t L s))))))) hMa36 (j := 18) (k := 1) (by decide) (by decide) (by decide) q.1
                    have hs37a : mTs σa37 hm t L (tNumS t L 0 9999 (tNumS t L 1 6 (tNumS t L 1 500 (tHs t L D (tAdv t L s))))) := mTs_fr (σ := (zsi (zsi (zsi (zsi σa36 (A 1) (14 + 8 * (D 1) + 0) (tuV t L (tAdv t L s).1)) (A 1) (14 + 8 * (D 1) + 1) (tNumV t L 1 500 (tHs t L D (tAdv t L s)))) (A 1) (14 + 8 * (D 1) + 2) (tNumV t L 1 6 (tNumS t L 1 500 (tHs t L D (tAdv t L s))))) (A 1) (14 + 8 * (D 1) + 3) (tNumV t L 0 9999 (tNumS t L 1 6 (tNumS t L 1 500 (tHs t L D (tAdv t L s))))))) (mTs_A (σ := (zsi (zsi (zsi σa36 (A 1) (14 + 8 * (D 1) + 0) (tuV t L (tAdv t L s).1)) (A 1) (14 + 8 * (D 1) + 1) (tNumV t L 1 500 (tHs t L D (tAdv t L s)))) (A 1) (14 + 8 * (D 1) + 2) (tNumV t L 1 6 (tNumS t L 1 500 (tHs t L D (tAdv t L s)))))) (k := 1) hMa36 (by decide) (mTs_A (σ := (zsi (zsi σa36 (A 1) (14 + 8 * (D 1) + 0) (tuV t L (tAdv t L s).1)) (A 1) (14 + 8 * (D 1) + 1) (tNumV t L 1 500 (tHs t L D (tAdv t L s))))) (k := 1) hMa36 (by decide) (mTs_A (σ := (zsi σa36 (A 1) (14 + 8 * (D 1) + 0) (tuV t L (tAdv t L s).1))) (k := 1) hMa36 (by decide) (mTs_A (σ := σa36) (k := 1) hMa36 (by decide) hs36a)))) fr37 fun j q => zMo_hm1 (σ := (zsi (zsi (zsi (zsi σa36 (A 1) (14 + 8 * (D 1) + 0) (tuV t L (tAdv t L s).1)) (A 1) (14 + 8 * (D 1) + 1) (tNumV t L 1 500 (tHs t L D (tAdv t L s)))) (A 1) (14 + 8 * (D 1) + 2) (tNumV t L 1 6 (tNumS t L 1 500 (tHs t L D (tAdv t L s))))) (A 1) (14 + 8 * (D 1) + 3) (tNumV t L 0 9999 (tNumS t L 1 6 (tNumS t L 1 500 (tHs t L D (tAdv t L s))))))) hMa36 (k := 1) (by decide) zMo_h1 q.1.symm
                    have hD37a : zia σa37 (A 1) = (mBook (mSet (mSet (mSet (mSet D (14 + 8 * (D 1) + 0) (tuV t L (tAdv t L s).1)) (14 + 8 * (D 1) + 1) (tNumV t L 1 500 (tHs t L D (tAdv t L s)))) (14 + 8 * (D 1) + 2) (tNumV t L 1 6 (tNumS t L 1 500 (tHs t L D (tAdv t L s))))) (14 + 8 * (D 1) + 3) (tNumV t L 0 9999 (tNumS t L 1 6 (tNumS t L 1 500 (tHs t L D (tAdv t L s)))))) (D 1) (-1) (-1) 0 0) := p37.trans (congrArg (fun z => mBook z (D 1) (-1) (-1) 0 0) (mSet_mem (mSet_mem (mSet_mem (mSet_mem hD36a)))))
                    refine zF_aload_n 240 dX12_readScreen_239 rfl rfl ?_
                    refine zF_getR 243 dX12_readScreen_240 rfl gX12_13 hMa37.1 hMa37.2.1 (zM_1 hMa37).1 ?_
                    refine zF_iconst 244 dX12_readScreen_243 rfl ?_
                    refine zF_dup2 245 dX12_readScreen_244 rfl rfl rfl ?_
                    refine zF_iaload 246 dX12_readScreen_245 rfl (zM_1 hMa37).2.2 (zM_1 hMa37).2.1 (by omega) (by omega) (show zia σa37 (A 1) 1 = D 1 from (congrFun hD37a _).trans (by repeat (first | rw [mSet_o (by omega)] | rw [mBook_o2 (by omega)] | rw [mTm_o (by omega)]))) ?_
                    refine zF_iconst 247 dX12_readScreen_246 rfl ?_
                    refine zF_iadd 248 dX12_readScreen_247 rfl ?_
                    refine zF_iastore 249 dX12_readScreen_248 rfl (zM_1 hMa37).2.2 (zM_1 hMa37).2.1 (by omega) (by omega) ?_
                    exact zF_return dX12_readScreen_249 rfl ((by
    have e : ldScreen t L (s, D) = ((tNumS t L 0 9999 (tNumS t L 1 6 (tNumS t L 1 500 (tHs t L D (tAdv t L s))))), (mSet (mBook (mSet (mSet (mSet (mSet D (14 + 8 * (D 1) + 0) (tv t L (tAdv t L s).1)) (14 + 8 * (D 1) + 1) (tNumV t L 1 500 (tHs t L D (tAdv t L s)))) (14 + 8 * (D 1) + 2) (tNumV t L 1 6 (tNumS t L 1 500 (tHs t L D (tAdv t L s))))) (14 + 8 * (D 1) + 3) (tNumV t L 0 9999 (tNumS t L 1 6 (tNumS t L 1 500 (tHs t L D (tAdv t L s)))))) (D 1) (-1) (-1) 0 0) 1 ((D 1) + 1))) := if_pos (by show D 1 < 10; omega)
    rw [e, hTv]
    exact ⟨rfl, (zFr_si (Or.inr ⟨rfl, by omega, by omega⟩) ((zFr_si (Or.inr ⟨rfl, by omega, by omega⟩) (zFr_si (Or.inr ⟨rfl, by omega, by omega⟩) (zFr_si (Or.inr ⟨rfl, by omega, by omega⟩) (zFr_si (Or.inr ⟨rfl, by omega, by omega⟩) (((((((((mPl_t fr10).tr (mPl_t fr11)).tr (mPl_t fr19)).tr (mPl_t fr26)).tr (mPl_t fr32)).tr (mPl_t fr33)).tr (mPl_t fr34)).tr (mPl_t fr35)).tr (mPl_t fr36)))))).tr (fr37.wk fun _ _ q => Or.inr ⟨q.1, by have := q.2; omega, by have := q.2; omega⟩))), (mTs_A (σ := σa37) (k := 1) hMa37 (by decide) hs37a), fun _ => (mSet_mem hD37a)⟩))
theorem zt_X12_readTerms {f : Int} (hG : zOS G) (hM : zMo σ hm A) (hx : mTx σ A t L) (hs : mTs σ hm t L s) (hD : zia σ (A 1) = D) (f0 : 0 ≤ f) (f1 : f < 6) : zE G mX12_readTerms (d + 7) [zR hm, zI f] σ (fun ro σ1 => ro = .inl none ∧ zFr (mPl hm A) σ σ1 ∧ mTs σ1 hm t L (tIt t L s (tmC t L s)) ∧ zia σ1 (A 1) = mSet (mTm t L D s (94 + 10 * f + 4) (tmC t L s)) (94 + 10 * f + 3) (tmC t L s : Int)) := by
  refine zE_of rfl (by simp [zcat]) (Nat.le_of_ble_eq_true rfl) ?_
  show zF G mX12_readTerms (d + 7) 0 [(0, zR hm), (1, zI f)] [] σ _
  have hl7 := hx.1
  refine zF_iconst 1 dX12_readTerms_0 rfl ?_
  refine zF_istore_n 2 (ls' := [(2, zI 0), (0, zR hm), (1, zI f)]) dX12_readTerms_1 rfl (by decide) rfl ?_
  refine zF_locs (ls' := [(2, zI ((0 : Nat) : Int)), (0, zR hm), (1, zI f)]) ⟨zlI rfl (by first | rfl | omega | (push_cast; omega) | exact congrArg (_ + ·) (zbT (by assumption)) | exact congrArg (_ + ·) (zbF (by assumption)) | exact congrArg (_ + ·) (zbT (by omega)) | exact congrArg (_ + ·) (zbF (by omega)) | exact congrArg (_ + ·) (if_pos (by omega)).symm | exact congrArg (_ + ·) (if_neg (by omega)).symm | exact (if_pos (by omega)).symm | exact (if_neg (by omega)).symm | exact zsub_s (if_pos (by omega)).symm | exact zsub_s0 (if_neg (by omega)).symm | exact zadd0 (if_neg (by omega)).symm | exact zadd0 (zbF (by omega)) | exact (Int.sub_zero _).symm), rfl, rfl, trivial⟩ ?_
  refine zF_while (X := Nat) (fun x => 4 - x) (fun x σ2 => x < 4 ∧ zFr (mPl hm A) σ σ2 ∧ mTs σ2 hm t L (tIt t L s x) ∧ zia σ2 (A 1) = mTm t L D s (94 + 10 * f + 4) x ∧ ∀ i, 1 ≤ i → i ≤ x → tKd t L (tIt t L s i) = 2) (fun x => [(2, zI ((x : Nat) : Int)), (0, zR hm), (1, zI f)]) ?_ 0 σ (⟨by omega, zFr.rf, hs, hD, fun i a c => absurd c (by omega)⟩)
  intro x σ2 hI2 ih2
  show zF G mX12_readTerms (d + 7) 2 [(2, zI ((x : Nat) : Int)), (0, zR hm), (1, zI f)] [] σ2 _
  obtain ⟨hx4, f2, hs2, hD2, hk2⟩ := hI2
  have hM2 := zMo_f2 f2 hM
  have hx2 := mTx_l hM hx f2
  refine zF_aload_n 3 dX12_readTerms_2 rfl rfl ?_
  refine zF_getR 6 dX12_readTerms_3 rfl gX12_13 hM2.1 hM2.2.1 (zM_1 hM2).1 ?_
  refine zF_iload_n 7 dX12_readTerms_6 rfl rfl ?_
  refine zF_iconst 8 dX12_readTerms_7 rfl ?_
  refine zF_iload_n 9 dX12_readTerms_8 rfl rfl ?_
  refine zF_iadd 10 dX12_readTerms_9 rfl ?_
  refine zF_callSi 13 (d2 := (d + 6)) (as := [zI f, zI (4 + ((x : Nat) : Int))]) dX12_readTerms_10 rfl kX12_99 sX12_filmAt (Nat.le_refl _) rfl rfl (Nat.le_of_ble_eq_true rfl) (zt_X12_filmAt) ?_
  refine zF_aload_n 14 dX12_readTerms_13 rfl rfl ?_
  refine zF_iconst 15 dX12_readTerms_14 rfl ?_
  refine zF_bipush 17 dX12_readTerms_15 rfl (by decide) ?_
  refine zF_callV 20 (d2 := (d + 6)) (as := [zI 0, zI 90]) dX12_readTerms_17 rfl kX12_404 iX12_readNumber (ci := 12) rfl eX12_readNumber (Nat.le_refl _) hM2.1 hM2.2.1 rfl rfl (Nat.le_of_ble_eq_true rfl) (zE.mono (zt_X12_readNumber (σ := σ2) hM2 hx2 hs2 (by decide) (by decide) (by decide)) fun ro σa1 hh1 => ?_)
  obtain ⟨er1, fr1, p1⟩ := hh1
  subst er1
  refine ⟨fr1.1, ?_⟩
  show zF G mX12_readTerms (d + 7) 20 [(2, zI ((x : Nat) : Int)), (0, zR hm), (1, zI f)] [zI (tNumV t L 0 90 (tIt t L s x)), zI (94 + 10 * f + (4 + ((x : Nat) : Int))), zR (A 1)] σa1 _
  have hMa1 := zMo_f2 (σ := σ2) fr1 hM2
  have hxa1 := mTx_t (σ := σ2) hM2 hx2 fr1
  have hs1a : mTs σa1 hm t L (tIt t L s (x + 1)) := p1
  have hD1a : zia σa1 (A 1) = (mTm t L D s (94 + 10 * f + 4) x) := (mPt_A (σ := σ2) hM2 fr1 (k := 1) (by decide)).trans hD2
  refine zF_iastore 21 dX12_readTerms_20 rfl (zM_1 hMa1).2.2 (zM_1 hMa1).2.1 (by omega) (by omega) ?_
  refine zF_iinc 24 (ls' := [(2, zI (((x : Nat) : Int) + 1)), (0, zR hm), (1, zI f)]) dX12_readTerms_21 rfl rfl rfl (by decide) rfl ?_
  refine zF_aload_n 25 dX12_readTerms_24 rfl rfl ?_
  have ebx := ((mTs_A (σ := σa1) (k := 1) hMa1 (by decide) hs1a) : mTs (zsi σa1 (A 1) (94 + 10 * f + (4 + ((x : Nat) : Int))) (tNumV t L 0 90 (tIt t L s x))) hm t L (tIt t L s (x + 1))).2.2.2.2.2.2.2
  have kbx := tk_b t L (tIt t L s (x + 1)).1
  refine zF_getI 28 dX12_readTerms_25 rfl gX12_363 (by decide) (by decide) hMa1.1 hMa1.2.1 (mTs_A (σ := σa1) (k := 1) hMa1 (by decide) hs1a).2.2.2.2.2.1 ?_
  refine zF_if_ne 44 31 dX12_readTerms_28 rfl rfl (by first | decide | assumption | (constructor <;> omega)) (fun c1 => ?_) (fun c1 => ?_)
  · refine zF_aload_n 45 dX12_readTerms_44 rfl rfl ?_
    refine zF_getR 48 dX12_readTerms_45 rfl gX12_13 hMa1.1 hMa1.2.1 (zM_1 hMa1).1 ?_
    refine zF_iload_n 49 dX12_readTerms_48 rfl rfl ?_
    refine zF_iconst 50 dX12_readTerms_49 rfl ?_
    refine zF_callSi 53 (d2 := (d + 6)) (as := [zI f, zI 3]) dX12_readTerms_50 rfl kX12_99 sX12_filmAt (Nat.le_refl _) rfl rfl (Nat.le_of_ble_eq_true rfl) (zt_X12_filmAt) ?_
    refine zF_iload_n 54 dX12_readTerms_53 rfl rfl ?_
    refine zF_iastore 55 dX12_readTerms_54 rfl (zM_1 hMa1).2.2 (zM_1 hMa1).2.1 (by omega) (by omega) ?_
    exact zF_return dX12_readTerms_55 rfl ((by
    have ec : tmC t L s = x + 1 := tmC_is (by omega) (by omega) (fun i a c => hk2 i a (by omega)) (by first | exact Or.inl (by omega) | (right; by_cases z0 : (tIt t L s (x + 1)).2 = 0; rw [tKd_0 z0]; omega; rw [tKd_e z0]; decide))
    rw [ec]
    exact ⟨rfl, (zFr_si (Or.inr ⟨rfl, by omega, by omega⟩) (zFr_si (Or.inr ⟨rfl, by omega, by omega⟩) (f2.tr (mPl_t fr1)))), (mTs_A (σ := (zsi σa1 (A 1) (94 + 10 * f + (4 + ((x : Nat) : Int))) (tNumV t L 0 90 (tIt t L s x)))) (k := 1) hMa1 (by decide) (mTs_A (σ := σa1) (k := 1) hMa1 (by decide) hs1a)), ((mSet_mem (mSet_mem hD1a)) : zia (zsi (zsi σa1 (A 1) (94 + 10 * f + (4 + ((x : Nat) : Int))) (tNumV t L 0 90 (tIt t L s x))) (A 1) (94 + 10 * f + 3) (((x : Nat) : Int) + 1)) (A 1) = (mSet (mSet (mTm t L D s (94 + 10 * f + 4) x) (94 + 10 * f + (4 + ((x : Nat) : Int))) (tNumV t L 0 90 (tIt t L s x))) (94 + 10 * f + 3) (((x : Nat) : Int) + 1))).trans (by rw [show 94 + 10 * f + (4 + (x : Int)) = 94 + 10 * f + 4 + (x : Int) by omega]; first | rfl | (push_cast; rfl))⟩))
  · refine zF_aload_n 32 dX12_readTerms_31 rfl rfl ?_
    refine zF_getI 35 dX12_readTerms_32 rfl gX12_354 (by decide) (by decide) hMa1.1 hMa1.2.1 (mTs_A (σ := σa1) (k := 1) hMa1 (by decide) hs1a).2.2.2.2.1 ?_
    refine zF_iconst 36 dX12_readTerms_35 rfl ?_
    refine zF_icmp_ne 44 39 dX12_readTerms_36 rfl rfl (by first | decide | assumption | (constructor <;> omega)) (by first | decide | assumption | (constructor <;> omega)) (fun c2 => ?_) (fun c2 => ?_)
    · refine zF_aload_n 45 dX12_readTerms_44 rfl rfl ?_
      refine zF_getR 48 dX12_readTerms_45 rfl gX12_13 hMa1.1 hMa1.2.1 (zM_1 hMa1).1 ?_
      refine zF_iload_n 49 dX12_readTerms_48 rfl rfl ?_
      refine zF_iconst 50 dX12_readTerms_49 rfl ?_
      refine zF_callSi 53 (d2 := (d + 6)) (as := [zI f, zI 3]) dX12_readTerms_50 rfl kX12_99 sX12_filmAt (Nat.le_refl _) rfl rfl (Nat.le_of_ble_eq_true rfl) (zt_X12_filmAt) ?_
      refine zF_iload_n 54 dX12_readTerms_53 rfl rfl ?_
      refine zF_iastore 55 dX12_readTerms_54 rfl (zM_1 hMa1).2.2 (zM_1 hMa1).2.1 (by omega) (by omega) ?_
      exact zF_return dX12_readTerms_55 rfl ((by
    have ec : tmC t L s = x + 1 := tmC_is (by omega) (by omega) (fun i a c => hk2 i a (by omega)) (by first | exact Or.inl (by omega) | (right; by_cases z0 : (tIt t L s (x + 1)).2 = 0; rw [tKd_0 z0]; omega; rw [tKd_e z0]; decide))
    rw [ec]
    exact ⟨rfl, (zFr_si (Or.inr ⟨rfl, by omega, by omega⟩) (zFr_si (Or.inr ⟨rfl, by omega, by omega⟩) (f2.tr (mPl_t fr1)))), (mTs_A (σ := (zsi σa1 (A 1) (94 + 10 * f + (4 + ((x : Nat) : Int))) (tNumV t L 0 90 (tIt t L s x)))) (k := 1) hMa1 (by decide) (mTs_A (σ := σa1) (k := 1) hMa1 (by decide) hs1a)), ((mSet_mem (mSet_mem hD1a)) : zia (zsi (zsi σa1 (A 1) (94 + 10 * f + (4 + ((x : Nat) : Int))) (tNumV t L 0 90 (tIt t L s x))) (A 1) (94 + 10 * f + 3) (((x : Nat) : Int) + 1)) (A 1) = (mSet (mSet (mTm t L D s (94 + 10 * f + 4) x) (94 + 10 * f + (4 + ((x : Nat) : Int))) (tNumV t L 0 90 (tIt t L s x))) (94 + 10 * f + 3) (((x : Nat) : Int) + 1))).trans (by rw [show 94 + 10 * f + (4 + (x : Int)) = 94 + 10 * f + 4 + (x : Int) by omega]; first | rfl | (push_cast; rfl))⟩))
    · refine zF_iload_n 40 dX12_readTerms_39 rfl rfl ?_
      refine zF_iconst 41 dX12_readTerms_40 rfl ?_
      refine zF_icmp_lt 2 44 dX12_readTerms_41 rfl rfl (by first | decide | assumption | (constructor <;> omega)) (by first | decide | assumption | (constructor <;> omega)) (fun c3 => ?_) (fun c3 => ?_)
      · exact zF_locs (ls' := [(2, zI (((x + 1) : Nat) : Int)), (0, zR hm), (1, zI f)]) ⟨zlI rfl (by first | rfl | omega | (push_cast; omega) | exact congrArg (_ + ·) (zbT (by assumption)) | exact congrArg (_ + ·) (zbF (by assumption)) | exact congrArg (_ + ·) (zbT (by omega)) | exact congrArg (_ + ·) (zbF (by omega)) | exact congrArg (_ + ·) (if_pos (by omega)).symm | exact congrArg (_ + ·) (if_neg (by omega)).symm | exact (if_pos (by omega)).symm | exact (if_neg (by omega)).symm | exact zsub_s (if_pos (by omega)).symm | exact zsub_s0 (if_neg (by omega)).symm | exact zadd0 (if_neg (by omega)).symm | exact zadd0 (zbF (by omega)) | exact (Int.sub_zero _).symm), rfl, rfl, trivial⟩ (ih2 (x + 1) _ (by omega) (⟨by omega, (zFr_si (Or.inr ⟨rfl, by omega, by omega⟩) (f2.tr (mPl_t fr1))), (mTs_A (σ := σa1) (k := 1) hMa1 (by decide) hs1a), ((mSet_mem hD1a) : zia (zsi σa1 (A 1) (94 + 10 * f + (4 + ((x : Nat) : Int))) (tNumV t L 0 90 (tIt t L s x))) (A 1) = (mSet (mTm t L D s (94 + 10 * f + 4) x) (94 + 10 * f + (4 + ((x : Nat) : Int))) (tNumV t L 0 90 (tIt t L s x)))).trans (by rw [show 94 + 10 * f + (4 + (x : Int)) = 94 + 10 * f + 4 + (x : Int) by omega]; rfl), fun i a c => by
          by_cases q : i = x + 1
          · subst q; have z := tKd_0 (t := t) (L := L) (s := tIt t L s (x + 1)) (by omega); omega
          · exact hk2 i a (by omega)⟩))
      · refine zF_aload_n 45 dX12_readTerms_44 rfl rfl ?_
        refine zF_getR 48 dX12_readTerms_45 rfl gX12_13 hMa1.1 hMa1.2.1 (zM_1 hMa1).1 ?_
        refine zF_iload_n 49 dX12_readTerms_48 rfl rfl ?_
        refine zF_iconst 50 dX12_readTerms_49 rfl ?_
        refine zF_callSi 53 (d2 := (d + 6)) (as := [zI f, zI 3]) dX12_readTerms_50 rfl kX12_99 sX12_filmAt (Nat.le_refl _) rfl rfl (Nat.le_of_ble_eq_true rfl) (zt_X12_filmAt) ?_
        refine zF_iload_n 54 dX12_readTerms_53 rfl rfl ?_
        refine zF_iastore 55 dX12_readTerms_54 rfl (zM_1 hMa1).2.2 (zM_1 hMa1).2.1 (by omega) (by omega) ?_
        exact zF_return dX12_readTerms_55 rfl ((by
    have ec : tmC t L s = x + 1 := tmC_is (by omega) (by omega) (fun i a c => hk2 i a (by omega)) (by first | exact Or.inl (by omega) | (right; by_cases z0 : (tIt t L s (x + 1)).2 = 0; rw [tKd_0 z0]; omega; rw [tKd_e z0]; decide))
    rw [ec]
    exact ⟨rfl, (zFr_si (Or.inr ⟨rfl, by omega, by omega⟩) (zFr_si (Or.inr ⟨rfl, by omega, by omega⟩) (f2.tr (mPl_t fr1)))), (mTs_A (σ := (zsi σa1 (A 1) (94 + 10 * f + (4 + ((x : Nat) : Int))) (tNumV t L 0 90 (tIt t L s x)))) (k := 1) hMa1 (by decide) (mTs_A (σ := σa1) (k := 1) hMa1 (by decide) hs1a)), ((mSet_mem (mSet_mem hD1a)) : zia (zsi (zsi σa1 (A 1) (94 + 10 * f + (4 + ((x : Nat) : Int))) (tNumV t L 0 90 (tIt t L s x))) (A 1) (94 + 10 * f + 3) (((x : Nat) : Int) + 1)) (A 1) = (mSet (mSet (mTm t L D s (94 + 10 * f + 4) x) (94 + 10 * f + (4 + ((x : Nat) : Int))) (tNumV t L 0 90 (tIt t L s x))) (94 + 10 * f + 3) (((x : Nat) : Int) + 1))).trans (by rw [show 94 + 10 * f + (4 + (x : Int)) = 94 + 10 * f + 4 + (x : Int) by omega]; first | rfl | (push_cast; rfl))⟩))
theorem zt_X12_readFilm  (hG : zOS G) (hM : zMo σ hm A) (hx : mTx σ A t L) (hs : mTs σ hm t L s) (hD : zia σ (A 1) = D) (hv : ldV D) (h0 : s.2 = 0) : zE G mX12_readFilm (d + 8) [zR hm] σ (fun ro σ1 => ro = .inl none ∧ zFr (mPl hm A) σ σ1 ∧ mTs σ1 hm t L (ldFilm t L (s, D)).1 ∧ ((ldFilm t L (s, D)).1.2 = 0 → zia σ1 (A 1) = (ldFilm t L (s, D)).2)) := by
  refine zE_of rfl (by simp [zcat]) (Nat.le_of_ble_eq_true rfl) ?_
  show zF G mX12_readFilm (d + 8) 0 [(0, zR hm)] [] σ _
  have hlt := mTs_lt hs
  have hl7 := hx.1
  have hn := hv.n
  have h1 : (tAdv t L s).2 = 0 := tAdv_2.trans h0
  refine zF_aload_n 1 dX12_readFilm_0 rfl rfl ?_
  refine zF_aload_n 2 dX12_readFilm_1 rfl rfl ?_
  refine zF_getR 5 dX12_readFilm_2 rfl gX12_13 hM.1 hM.2.1 (zM_1 hM).1 ?_
  refine zF_iconst 6 dX12_readFilm_5 rfl ?_
  refine zF_iaload 7 dX12_readFilm_6 rfl (zM_1 hM).2.2 (zM_1 hM).2.1 (by omega) (by omega) (congrFun hD _) ?_
  refine zF_bipush 9 dX12_readFilm_7 rfl (by decide) ?_
  refine zF_icmp_ge 16 12 dX12_readFilm_9 rfl rfl (by first | decide | assumption | exact hv.b _ | (constructor <;> omega)) (by first | decide | assumption | exact hv.b _ | (constructor <;> omega)) (fun c1 => ?_) (fun c1 => ?_)
  · refine zF_iconst 17 dX12_readFilm_16 rfl ?_
    refine zF_iconst 18 dX12_readFilm_17 rfl ?_
    refine zF_callV 21 (d2 := (d + 7)) (as := [zI 0, zI 3]) dX12_readFilm_18 rfl kX12_382 iX12_check (ci := 12) rfl eX12_check (Nat.le_refl _) hM.1 hM.2.1 rfl rfl (Nat.le_of_ble_eq_true rfl) (zE.mono (zt_X12_check (σ := σ) (P := False) (c := 3) hM hx hs rfl (by decide) (by decide)) fun ro σa1 hh1 => ?_)
    obtain ⟨er1, fr1, p1⟩ := hh1
    subst er1
    refine ⟨fr1.1, ?_⟩
    show zF G mX12_readFilm (d + 8) 21 [(0, zR hm)] [] σa1 _
    have hMa1 := zMo_f2 (σ := σ) fr1 hM
    have hxa1 := mTx_t (σ := σ) hM hx fr1
    have hs1a : mTs σa1 hm t L (s.1, 3) := mTs_to p1 ((if_neg id).trans (if_pos (by first | assumption | omega)) : (if False then s else tFail 3 s) = (s.1, 3))
    have hD1a : zia σa1 (A 1) = D := (mPt_A (σ := σ) hM fr1 (k := 1) (by decide)).trans hD
    have ebhs1a := hs1a.2.2.2.2.2.2.2
    refine zF_aload_n 22 dX12_readFilm_21 rfl rfl ?_
    refine zF_callV 25 (d2 := (d + 7)) (as := []) dX12_readFilm_22 rfl kX12_386 iX12_advance (ci := 12) rfl eX12_advance (Nat.le_refl _) hMa1.1 hMa1.2.1 rfl rfl (Nat.le_of_ble_eq_true rfl) (zE.mono (zt_X12_advance (σ := σa1) hMa1 hxa1 hs1a) fun ro σa2 hh2 => ?_)
    obtain ⟨er2, fr2, p2⟩ := hh2
    subst er2
    refine ⟨fr2.1, ?_⟩
    show zF G mX12_readFilm (d + 8) 25 [(0, zR hm)] [] σa2 _
    have hMa2 := zMo_f2 (σ := σa1) fr2 hMa1
    have hxa2 := mTx_t (σ := σa1) hMa1 hxa1 fr2
    have hs2a : mTs σa2 hm t L (s.1, 3) := mTs_to p2 (tAdv_e (by show ¬ (3 : Int) = 0; decide))
    have hD2a : zia σa2 (A 1) = D := (mPt_A (σ := σa1) hMa1 fr2 (k := 1) (by decide)).trans hD1a
    have ebhs2a := hs2a.2.2.2.2.2.2.2
    refine zF_aload_n 26 dX12_readFilm_25 rfl rfl ?_
    refine zF_getI 29 dX12_readFilm_26 rfl gX12_363 (by decide) (by decide) hMa2.1 hMa2.2.1 hs2a.2.2.2.2.2.1 ?_
    refine zF_if_eq 33 32 dX12_readFilm_29 rfl rfl (by first | decide | assumption | exact hv.b _ | (constructor <;> omega)) (fun c2 => ?_) (fun c2 => ?_)
    · exact absurd c2 (by first | decide | simp)
    · exact zF_return dX12_readFilm_32 rfl ((by
    have e : ldFilm t L (s, D) = ((s.1, 3), D) := (ldFilm_n (by omega)).trans (by rw [tFail_0 h0])
    rw [e]
    exact ⟨rfl, ((mPl_t fr1).tr (mPl_t fr2)), hs2a, fun _ => hD2a⟩))
  · refine zF_iconst 13 dX12_readFilm_12 rfl ?_
    refine zF_goto 17 dX12_readFilm_13 rfl ?_
    refine zF_iconst 18 dX12_readFilm_17 rfl ?_
    refine zF_callV 21 (d2 := (d + 7)) (as := [zI 1, zI 3]) dX12_readFilm_18 rfl kX12_382 iX12_check (ci := 12) rfl eX12_check (Nat.le_refl _) hM.1 hM.2.1 rfl rfl (Nat.le_of_ble_eq_true rfl) (zE.mono (zt_X12_check (σ := σ) (P := True) (c := 3) hM hx hs rfl (by decide) (by decide)) fun ro σa3 hh3 => ?_)
    obtain ⟨er3, fr3, p3⟩ := hh3
    subst er3
    refine ⟨fr3.1, ?_⟩
    show zF G mX12_readFilm (d + 8) 21 [(0, zR hm)] [] σa3 _
    have hMa3 := zMo_f2 (σ := σ) fr3 hM
    have hxa3 := mTx_t (σ := σ) hM hx fr3
    have hs3a : mTs σa3 hm t L s := mTs_to p3 (if_pos trivial)
    have hD3a : zia σa3 (A 1) = D := (mPt_A (σ := σ) hM fr3 (k := 1) (by decide)).trans hD
    have ebhs3a := hs3a.2.2.2.2.2.2.2
    refine zF_aload_n 22 dX12_readFilm_21 rfl rfl ?_
    refine zF_callV 25 (d2 := (d + 7)) (as := []) dX12_readFilm_22 rfl kX12_386 iX12_advance (ci := 12) rfl eX12_advance (Nat.le_refl _) hMa3.1 hMa3.2.1 rfl rfl (Nat.le_of_ble_eq_true rfl) (zE.mono (zt_X12_advance (σ := σa3) hMa3 hxa3 hs3a) fun ro σa4 hh4 => ?_)
    obtain ⟨er4, fr4, p4⟩ := hh4
    subst er4
    refine ⟨fr4.1, ?_⟩
    show zF G mX12_readFilm (d + 8) 25 [(0, zR hm)] [] σa4 _
    have hMa4 := zMo_f2 (σ := σa3) fr4 hMa3
    have hxa4 := mTx_t (σ := σa3) hMa3 hxa3 fr4
    have hs4a : mTs σa4 hm t L (tAdv t L s) := p4
    have hD4a : zia σa4 (A 1) = D := (mPt_A (σ := σa3) hMa3 fr4 (k := 1) (by decide)).trans hD3a
    have ebhs4a := hs4a.2.2.2.2.2.2.2
    refine zF_aload_n 26 dX12_readFilm_25 rfl rfl ?_
    refine zF_getI 29 dX12_readFilm_26 rfl gX12_363 (by decide) (by decide) hMa4.1 hMa4.2.1 hs4a.2.2.2.2.2.1 ?_
    refine zF_if_eq 33 32 dX12_readFilm_29 rfl rfl (by first | decide | assumption | exact hv.b _ | (constructor <;> omega)) (fun c3 => ?_) (fun c3 => ?_)
    · refine zF_aload_n 34 dX12_readFilm_33 rfl rfl ?_
      refine zF_getR 37 dX12_readFilm_34 rfl gX12_13 hMa4.1 hMa4.2.1 (zM_1 hMa4).1 ?_
      refine zF_iconst 38 dX12_readFilm_37 rfl ?_
      refine zF_iaload 39 dX12_readFilm_38 rfl (zM_1 hMa4).2.2 (zM_1 hMa4).2.1 (by omega) (by omega) (congrFun hD4a _) ?_
      refine zF_istore_n 40 (ls' := [(1, zI (D 2)), (0, zR hm)]) dX12_readFilm_39 rfl (by decide) rfl ?_
      refine zF_aload_n 41 dX12_readFilm_40 rfl rfl ?_
      refine zF_getR 44 dX12_readFilm_41 rfl gX12_13 hMa4.1 hMa4.2.1 (zM_1 hMa4).1 ?_
      refine zF_iload_n 45 dX12_readFilm_44 rfl rfl ?_
      refine zF_iconst 46 dX12_readFilm_45 rfl ?_
      refine zF_callSi 49 (d2 := (d + 7)) (as := [zI (D 2), zI 0]) dX12_readFilm_46 rfl kX12_99 sX12_filmAt (Nat.le_refl _) rfl rfl (Nat.le_of_ble_eq_true rfl) (zt_X12_filmAt) ?_
      refine zF_aload_n 50 dX12_readFilm_49 rfl rfl ?_
      refine zF_iconst 51 dX12_readFilm_50 rfl ?_
      refine zF_sipush 54 dX12_readFilm_51 rfl (by decide) ?_
      refine zF_callV 57 (d2 := (d + 7)) (as := [zI 0, zI 9999]) dX12_readFilm_54 rfl kX12_404 iX12_readNumber (ci := 12) rfl eX12_readNumber (Nat.le_refl _) hMa4.1 hMa4.2.1 rfl rfl (Nat.le_of_ble_eq_true rfl) (zE.mono (zt_X12_readNumber (σ := σa4) hMa4 hxa4 hs4a (by first | decide | assumption | exact hv.b _ | (constructor <;> omega)) (by first | decide | assumption | exact hv.b _ | (constructor <;> omega)) (by omega)) fun ro σa5 hh5 => ?_)
      obtain ⟨er5, fr5, p5⟩ := hh5
      subst er5
      refine ⟨fr5.1, ?_⟩
      show zF G mX12_readFilm (d + 8) 57 [(1, zI (D 2)), (0, zR hm)] [zI (tNumV t L 0 9999 (tAdv t L s)), zI (94 + 10 * (D 2) + 0), zR (A 1)] σa5 _
      have hMa5 := zMo_f2 (σ := σa4) fr5 hMa4
      have hxa5 := mTx_t (σ := σa4) hMa4 hxa4 fr5
      have hs5a : mTs σa5 hm t L (tNumS t L 0 9999 (tAdv t L s)) := p5
      have hD5a : zia σa5 (A 1) = D := (mPt_A (σ := σa4) hMa4 fr5 (k := 1) (by decide)).trans hD4a
      have ebhs5a := hs5a.2.2.2.2.2.2.2
      refine zF_iastore 58 dX12_readFilm_57 rfl (zM_1 hMa5).2.2 (zM_1 hMa5).2.1 (by omega) (by omega) ?_
      refine zF_aload_n 59 dX12_readFilm_58 rfl rfl ?_
      refine zF_getR 62 dX12_readFilm_59 rfl gX12_13 hMa5.1 hMa5.2.1 (zM_1 hMa5).1 ?_
      refine zF_iload_n 63 dX12_readFilm_62 rfl rfl ?_
      refine zF_iconst 64 dX12_readFilm_63 rfl ?_
      refine zF_callSi 67 (d2 := (d + 7)) (as := [zI (D 2), zI 1]) dX12_readFilm_64 rfl kX12_99 sX12_filmAt (Nat.le_refl _) rfl rfl (Nat.le_of_ble_eq_true rfl) (zt_X12_filmAt) ?_
      refine zF_aload_n 68 dX12_readFilm_67 rfl rfl ?_
      refine zF_iconst 69 dX12_readFilm_68 rfl ?_
      refine zF_bipush 71 dX12_readFilm_69 rfl (by decide) ?_
      refine zF_callV 74 (d2 := (d + 7)) (as := [zI 0, zI 100]) dX12_readFilm_71 rfl kX12_404 iX12_readNumber (ci := 12) rfl eX12_readNumber (Nat.le_refl _) hMa5.1 hMa5.2.1 rfl rfl (Nat.le_of_ble_eq_true rfl) (zE.mono (zt_X12_readNumber (σ := (zsi σa5 (A 1) (94 + 10 * (D 2) + 0) (tNumV t L 0 9999 (tAdv t L s)))) hMa5 (mTx_A (σ := σa5) (k := 1) hMa5 (by decide) (by decide) hxa5) (mTs_A (σ := σa5) (k := 1) hMa5 (by decide) hs5a) (by first | decide | assumption | exact hv.b _ | (constructor <;> omega)) (by first | decide | assumption | exact hv.b _ | (constructor <;> omega)) (by omega)) fun ro σa6 hh6 => ?_)
      obtain ⟨er6, fr6, p6⟩ := hh6
      subst er6
      refine ⟨fr6.1, ?_⟩
      show zF G mX12_readFilm (d + 8) 74 [(1, zI (D 2)), (0, zR hm)] [zI (tNumV t L 0 100 (tNumS t L 0 9999 (tAdv t L s))), zI (94 + 10 * (D 2) + 1), zR (A 1)] σa6 _
      have hMa6 := zMo_f2 (σ := (zsi σa5 (A 1) (94 + 10 * (D 2) + 0) (tNumV t L 0 9999 (tAdv t L s)))) fr6 hMa5
      have hxa6 := mTx_t (σ := (zsi σa5 (A 1) (94 + 10 * (D 2) + 0) (tNumV t L 0 9999 (tAdv t L s)))) hMa5 (mTx_A (σ := σa5) (k := 1) hMa5 (by decide) (by decide) hxa5) fr6
      have hs6a : mTs σa6 hm t L (tNumS t L 0 100 (tNumS t L 0 9999 (tAdv t L s))) := p6
      have hD6a : zia σa6 (A 1) = (mSet D (94 + 10 * (D 2) + 0) (tNumV t L 0 9999 (tAdv t L s))) := (mPt_A (σ := (zsi σa5 (A 1) (94 + 10 * (D 2) + 0) (tNumV t L 0 9999 (tAdv t L s)))) hMa5 fr6 (k := 1) (by decide)).trans (mSet_mem hD5a)
      have ebhs6a := hs6a.2.2.2.2.2.2.2
      refine zF_iastore 75 dX12_readFilm_74 rfl (zM_1 hMa6).2.2 (zM_1 hMa6).2.1 (by omega) (by omega) ?_
      refine zF_aload_n 76 dX12_readFilm_75 rfl rfl ?_
      refine zF_getR 79 dX12_readFilm_76 rfl gX12_13 hMa6.1 hMa6.2.1 (zM_1 hMa6).1 ?_
      refine zF_iload_n 80 dX12_readFilm_79 rfl rfl ?_
      refine zF_iconst 81 dX12_readFilm_80 rfl ?_
      refine zF_callSi 84 (d2 := (d + 7)) (as := [zI (D 2), zI 2]) dX12_readFilm_81 rfl kX12_99 sX12_filmAt (Nat.le_refl _) rfl rfl (Nat.le_of_ble_eq_true rfl) (zt_X12_filmAt) ?_
      refine zF_aload_n 85 dX12_readFilm_84 rfl rfl ?_
      refine zF_iconst 86 dX12_readFilm_85 rfl ?_
      refine zF_sipush 89 dX12_readFilm_86 rfl (by decide) ?_
      refine zF_callV 92 (d2 := (d + 7)) (as := [zI 0, zI 9999]) dX12_readFilm_89 rfl kX12_404 iX12_readNumber (ci := 12) rfl eX12_readNumber (Nat.le_refl _) hMa6.1 hMa6.2.1 rfl rfl (Nat.le_of_ble_eq_true rfl) (zE.mono (zt_X12_readNumber (σ := (zsi σa6 (A 1) (94 + 10 * (D 2) + 1) (tNumV t L 0 100 (tNumS t L 0 9999 (tAdv t L s))))) hMa6 (mTx_A (σ := σa6) (k := 1) hMa6 (by decide) (by decide) hxa6) (mTs_A (σ := σa6) (k := 1) hMa6 (by decide) hs6a) (by first | decide | assumption | exact hv.b _ | (constructor <;> omega)) (by first | decide | assumption | exact hv.b _ | (constructor <;> omega)) (by omega)) fun ro σa7 hh7 => ?_)
      obtain ⟨er7, fr7, p7⟩ := hh7
      subst er7
      refine ⟨fr7.1, ?_⟩
      show zF G mX12_readFilm (d + 8) 92 [(1, zI (D 2)), (0, zR hm)] [zI (tNumV t L 0 9999 (tNumS t L 0 100 (tNumS t L 0 9999 (tAdv t L s)))), zI (94 + 10 * (D 2) + 2), zR (A 1)] σa7 _
      have hMa7 := zMo_f2 (σ := (zsi σa6 (A 1) (94 + 10 * (D 2) + 1) (tNumV t L 0 100 (tNumS t L 0 9999 (tAdv t L s))))) fr7 hMa6
      have hxa7 := mTx_t (σ := (zsi σa6 (A 1) (94 + 10 * (D 2) + 1) (tNumV t L 0 100 (tNumS t L 0 9999 (tAdv t L s))))) hMa6 (mTx_A (σ := σa6) (k := 1) hMa6 (by decide) (by decide) hxa6) fr7
      have hs7a : mTs σa7 hm t L (tNumS t L 0 9999 (tNumS t L 0 100 (tNumS t L 0 9999 (tAdv t L s)))) := p7
      have hD7a : zia σa7 (A 1) = (mSet (mSet D (94 + 10 * (D 2) + 0) (tNumV t L 0 9999 (tAdv t L s))) (94 + 10 * (D 2) + 1) (tNumV t L 0 100 (tNumS t L 0 9999 (tAdv t L s)))) := (mPt_A (σ := (zsi σa6 (A 1) (94 + 10 * (D 2) + 1) (tNumV t L 0 100 (tNumS t L 0 9999 (tAdv t L s))))) hMa6 fr7 (k := 1) (by decide)).trans (mSet_mem hD6a)
      have ebhs7a := hs7a.2.2.2.2.2.2.2
      refine zF_iastore 93 dX12_readFilm_92 rfl (zM_1 hMa7).2.2 (zM_1 hMa7).2.1 (by omega) (by omega) ?_
      refine zF_aload_n 94 dX12_readFilm_93 rfl rfl ?_
      refine zF_iload_n 95 dX12_readFilm_94 rfl rfl ?_
      refine zF_callV 98 (d2 := (d + 7)) (as := [zI (D 2)]) dX12_readFilm_95 rfl kX12_410 iX12_readTerms (ci := 12) rfl eX12_readTerms (Nat.le_refl _) hMa7.1 hMa7.2.1 rfl rfl (Nat.le_of_ble_eq_true rfl) (zE.mono (zt_X12_readTerms (σ := (zsi σa7 (A 1) (94 + 10 * (D 2) + 2) (tNumV t L 0 9999 (tNumS t L 0 100 (tNumS t L 0 9999 (tAdv t L s)))))) hG hMa7 (mTx_A (σ := σa7) (k := 1) hMa7 (by decide) (by decide) hxa7) (mTs_A (σ := σa7) (k := 1) hMa7 (by decide) hs7a) (mSet_mem hD7a) (by omega) (by omega)) fun ro σa8 hh8 => ?_)
      obtain ⟨er8, fr8, p8⟩ := hh8
      subst er8
      refine ⟨fr8.1, ?_⟩
      show zF G mX12_readFilm (d + 8) 98 [(1, zI (D 2)), (0, zR hm)] [] σa8 _
      have hMa8 := zMo_f2 (σ := (zsi σa7 (A 1) (94 + 10 * (D 2) + 2) (tNumV t L 0 9999 (tNumS t L 0 100 (tNumS t L 0 9999 (tAdv t L s)))))) fr8 hMa7
      have hxa8 := mTx_l (σ := (zsi σa7 (A 1) (94 + 10 * (D 2) + 2) (tNumV t L 0 9999 (tNumS t L 0 100 (tNumS t L 0 9999 (tAdv t L s)))))) hMa7 (mTx_A (σ := σa7) (k := 1) hMa7 (by decide) (by decide) hxa7) fr8
      have hs8a : mTs σa8 hm t L (tIt t L (tNumS t L 0 9999 (tNumS t L 0 100 (tNumS t L 0 9999 (tAdv t L s)))) (tmC t L (tNumS t L 0 9999 (tNumS t L 0 100 (tNumS t L 0 9999 (tAdv t L s)))))) := p8.1
      have hD8a : zia σa8 (A 1) = (mSet (mTm t L (mSet (mSet (mSet D (94 + 10 * (D 2) + 0) (tNumV t L 0 9999 (tAdv t L s))) (94 + 10 * (D 2) + 1) (tNumV t L 0 100 (tNumS t L 0 9999 (tAdv t L s)))) (94 + 10 * (D 2) + 2) (tNumV t L 0 9999 (tNumS t L 0 100 (tNumS t L 0 9999 (tAdv t L s))))) (tNumS t L 0 9999 (tNumS t L 0 100 (tNumS t L 0 9999 (tAdv t L s)))) (94 + 10 * (D 2) + 4) (tmC t L (tNumS t L 0 9999 (tNumS t L 0 100 (tNumS t L 0 9999 (tAdv t L s)))))) (94 + 10 * (D 2) + 3) (tmC t L (tNumS t L 0 9999 (tNumS t L 0 100 (tNumS t L 0 9999 (tAdv t L s)))) : Int)) := p8.2
      have eb8 := hs8a.2.2.2.2.2.2.2
      refine zF_aload_n 99 dX12_readFilm_98 rfl rfl ?_
      refine zF_getR 102 dX12_readFilm_99 rfl gX12_13 hMa8.1 hMa8.2.1 (zM_1 hMa8).1 ?_
      refine zF_iload_n 103 dX12_readFilm_102 rfl rfl ?_
      refine zF_bipush 105 dX12_readFilm_103 rfl (by decide) ?_
      refine zF_callSi 108 (d2 := (d + 7)) (as := [zI (D 2), zI 8]) dX12_readFilm_105 rfl kX12_99 sX12_filmAt (Nat.le_refl _) rfl rfl (Nat.le_of_ble_eq_true rfl) (zt_X12_filmAt) ?_
      refine zF_iconst 109 dX12_readFilm_108 rfl ?_
      refine zF_iastore 110 dX12_readFilm_109 rfl (zM_1 hMa8).2.2 (zM_1 hMa8).2.1 (by omega) (by omega) ?_
      refine zF_aload_n 111 dX12_readFilm_110 rfl rfl ?_
      refine zF_getR 114 dX12_readFilm_111 rfl gX12_13 hMa8.1 hMa8.2.1 (zM_1 hMa8).1 ?_
      refine zF_iconst 115 dX12_readFilm_114 rfl ?_
      refine zF_dup2 116 dX12_readFilm_115 rfl rfl rfl ?_
      refine zF_iaload 117 dX12_readFilm_116 rfl (zM_1 hMa8).2.2 (zM_1 hMa8).2.1 (by omega) (by omega) (show zia (zsi σa8 (A 1) (94 + 10 * (D 2) + 8) (-1)) (A 1) 2 = D 2 from (congrFun (mSet_mem hD8a) _).trans (by repeat (first | rw [mSet_o (by omega)] | rw [mBook_o2 (by omega)] | rw [mTm_o (by omega)]))) ?_
      refine zF_iconst 118 dX12_readFilm_117 rfl ?_
      refine zF_iadd 119 dX12_readFilm_118 rfl ?_
      refine zF_iastore 120 dX12_readFilm_119 rfl (zM_1 hMa8).2.2 (zM_1 hMa8).2.1 (by omega) (by omega) ?_
      exact zF_return dX12_readFilm_120 rfl ((by
    have e : ldFilm t L (s, D) = ((tIt t L (tNumS t L 0 9999 (tNumS t L 0 100 (tNumS t L 0 9999 (tAdv t L s)))) (tmC t L (tNumS t L 0 9999 (tNumS t L 0 100 (tNumS t L 0 9999 (tAdv t L s)))))), (mSet (mSet (mSet (mTm t L (mSet (mSet (mSet D (94 + 10 * (D 2) + 0) (tNumV t L 0 9999 (tAdv t L s))) (94 + 10 * (D 2) + 1) (tNumV t L 0 100 (tNumS t L 0 9999 (tAdv t L s)))) (94 + 10 * (D 2) + 2) (tNumV t L 0 9999 (tNumS t L 0 100 (tNumS t L 0 9999 (tAdv t L s))))) (tNumS t L 0 9999 (tNumS t L 0 100 (tNumS t L 0 9999 (tAdv t L s)))) (94 + 10 * (D 2) + 4) (tmC t L (tNumS t L 0 9999 (tNumS t L 0 100 (tNumS t L 0 9999 (tAdv t L s)))))) (94 + 10 * (D 2) + 3) (tmC t L (tNumS t L 0 9999 (tNumS t L 0 100 (tNumS t L 0 9999 (tAdv t L s)))) : Int)) (94 + 10 * (D 2) + 8) (-1)) 2 ((D 2) + 1))) := if_pos (by show D 2 < 6; omega)
    rw [e]
    exact ⟨rfl, (zFr_si (Or.inr ⟨rfl, by omega, by omega⟩) (zFr_si (Or.inr ⟨rfl, by omega, by omega⟩) ((zFr_si (Or.inr ⟨rfl, by omega, by omega⟩) ((zFr_si (Or.inr ⟨rfl, by omega, by omega⟩) ((zFr_si (Or.inr ⟨rfl, by omega, by omega⟩) (((mPl_t fr3).tr (mPl_t fr4)).tr (mPl_t fr5))).tr (mPl_t fr6))).tr (mPl_t fr7))).tr fr8))), (mTs_A (σ := (zsi σa8 (A 1) (94 + 10 * (D 2) + 8) (-1))) (k := 1) hMa8 (by decide) (mTs_A (σ := σa8) (k := 1) hMa8 (by decide) hs8a)), fun _ => (mSet_mem (mSet_mem hD8a))⟩))
    · exact absurd c3 (by first | assumption | omega)
theorem zt_X12_readPrints  (hG : zOS G) (hM : zMo σ hm A) (hx : mTx σ A t L) (hs : mTs σ hm t L s) (hD : zia σ (A 1) = D) (hv : ldV D) : zE G mX12_readPrints (d + 8) [zR hm] σ (fun ro σ1 => ro = .inl none ∧ zFr (mPl hm A) σ σ1 ∧ mTs σ1 hm t L (ldPr t L s D).1 ∧ ((ldPr t L s D).1.2 = 0 → zia σ1 (A 1) = (ldPr t L s D).2)) := by
  refine zE_of rfl (by simp [zcat]) (Nat.le_of_ble_eq_true rfl) ?_
  show zF G mX12_readPrints (d + 8) 0 [(0, zR hm)] [] σ _
  have hlt := mTs_lt hs
  have hl7 := hx.1
  have hn := hv.n
  have nv1 := tNumV_lo (t := t) (L := L) (lo := 0) (hi := D 2 - 1) (s := s)
  have nb1 : (tNumS t L 0 (D 2 - 1) s).2 = 0 → tNumV t L 0 (D 2 - 1) s ≤ D 2 - 1 := fun z => (tNumS_2 z).2.2.1
  refine zF_aload_n 1 dX12_readPrints_0 rfl rfl ?_
  refine zF_iconst 2 dX12_readPrints_1 rfl ?_
  refine zF_aload_n 3 dX12_readPrints_2 rfl rfl ?_
  refine zF_getR 6 dX12_readPrints_3 rfl gX12_13 hM.1 hM.2.1 (zM_1 hM).1 ?_
  refine zF_iconst 7 dX12_readPrints_6 rfl ?_
  refine zF_iaload 8 dX12_readPrints_7 rfl (zM_1 hM).2.2 (zM_1 hM).2.1 (by omega) (by omega) (congrFun hD _) ?_
  refine zF_iconst 9 dX12_readPrints_8 rfl ?_
  refine zF_isub 10 dX12_readPrints_9 rfl ?_
  refine zF_callV 13 (d2 := (d + 7)) (as := [zI 0, zI ((D 2) - 1)]) dX12_readPrints_10 rfl kX12_404 iX12_readNumber (ci := 12) rfl eX12_readNumber (Nat.le_refl _) hM.1 hM.2.1 rfl rfl (Nat.le_of_ble_eq_true rfl) (zE.mono (zt_X12_readNumber (σ := σ) hM hx hs (by first | decide | assumption | exact hv.b _ | (constructor <;> omega)) (by first | decide | assumption | exact hv.b _ | (constructor <;> omega)) (by omega)) fun ro σa1 hh1 => ?_)
  obtain ⟨er1, fr1, p1⟩ := hh1
  subst er1
  refine ⟨fr1.1, ?_⟩
  show zF G mX12_readPrints (d + 8) 13 [(0, zR hm)] [zI (tNumV t L 0 ((D 2) - 1) s)] σa1 _
  have hMa1 := zMo_f2 (σ := σ) fr1 hM
  have hxa1 := mTx_t (σ := σ) hM hx fr1
  have hs1a : mTs σa1 hm t L (tNumS t L 0 ((D 2) - 1) s) := p1
  have hD1a : zia σa1 (A 1) = D := (mPt_A (σ := σ) hM fr1 (k := 1) (by decide)).trans hD
  have ebhs1a := hs1a.2.2.2.2.2.2.2
  refine zF_istore_n 14 (ls' := [(1, zI (tNumV t L 0 ((D 2) - 1) s)), (0, zR hm)]) dX12_readPrints_13 rfl (by decide) rfl ?_
  refine zF_aload_n 15 dX12_readPrints_14 rfl rfl ?_
  refine zF_ldcSW 18 (i := 43) dX12_readPrints_15 rfl rfl ?_
  refine zF_callV 21 (d2 := (d + 7)) (as := [zR (zbg + 43)]) dX12_readPrints_18 rfl kX12_415 iX12_accept (ci := 12) rfl eX12_accept (Nat.le_refl _) hMa1.1 hMa1.2.1 rfl rfl (Nat.le_of_ble_eq_true rfl) (zE.mono (zt_X12_accept (σ := σa1) (i := 43) hMa1 hxa1 hs1a hG (by decide)) fun ro σa2 hh2 => ?_)
  obtain ⟨er2, fr2, p2⟩ := hh2
  subst er2
  refine ⟨fr2.1, ?_⟩
  show zF G mX12_readPrints (d + 8) 21 [(1, zI (tNumV t L 0 ((D 2) - 1) s)), (0, zR hm)] [zI (zb (tWd t L (zsbi 5) (tNumS t L 0 ((D 2) - 1) s)))] σa2 _
  have hMa2 := zMo_f2 (σ := σa1) fr2 hMa1
  have hxa2 := mTx_t (σ := σa1) hMa1 hxa1 fr2
  have hs2a : mTs σa2 hm t L (if tWd t L (zsbi 5) (tNumS t L 0 ((D 2) - 1) s) then tAdv t L (tNumS t L 0 ((D 2) - 1) s) else (tNumS t L 0 ((D 2) - 1) s)) := p2
  have hD2a : zia σa2 (A 1) = D := (mPt_A (σ := σa1) hMa1 fr2 (k := 1) (by decide)).trans hD1a
  have ebhs2a := hs2a.2.2.2.2.2.2.2
  refine zF_ifb_eq 28 24 dX12_readPrints_21 rfl rfl (fun c1 => ?_) (fun c1 => ?_)
  · have hqh := mTs_to hs2a (if_neg (by assumption))
    refine zF_aload_n 29 dX12_readPrints_28 rfl rfl ?_
    refine zF_iconst 30 dX12_readPrints_29 rfl ?_
    refine zF_aload_n 31 dX12_readPrints_30 rfl rfl ?_
    refine zF_getR 34 dX12_readPrints_31 rfl gX12_13 hMa2.1 hMa2.2.1 (zM_1 hMa2).1 ?_
    refine zF_iconst 35 dX12_readPrints_34 rfl ?_
    refine zF_iaload 36 dX12_readPrints_35 rfl (zM_1 hMa2).2.2 (zM_1 hMa2).2.1 (by omega) (by omega) (congrFun hD2a _) ?_
    refine zF_iconst 37 dX12_readPrints_36 rfl ?_
    refine zF_isub 38 dX12_readPrints_37 rfl ?_
    refine zF_callV 41 (d2 := (d + 7)) (as := [zI 0, zI ((D 0) - 1)]) dX12_readPrints_38 rfl kX12_404 iX12_readNumber (ci := 12) rfl eX12_readNumber (Nat.le_refl _) hMa2.1 hMa2.2.1 rfl rfl (Nat.le_of_ble_eq_true rfl) (zE.mono (zt_X12_readNumber (σ := σa2) hMa2 hxa2 hqh (by first | decide | assumption | exact hv.b _ | (constructor <;> omega)) (by first | decide | assumption | exact hv.b _ | (constructor <;> omega)) (by omega)) fun ro σa3 hh3 => ?_)
    obtain ⟨er3, fr3, p3⟩ := hh3
    subst er3
    refine ⟨fr3.1, ?_⟩
    show zF G mX12_readPrints (d + 8) 41 [(1, zI (tNumV t L 0 ((D 2) - 1) s)), (0, zR hm)] [zI (tNumV t L 0 ((D 0) - 1) (tNumS t L 0 (D 2 - 1) s))] σa3 _
    have hMa3 := zMo_f2 (σ := σa2) fr3 hMa2
    have hxa3 := mTx_t (σ := σa2) hMa2 hxa2 fr3
    have hs3a : mTs σa3 hm t L (tNumS t L 0 ((D 0) - 1) (tNumS t L 0 (D 2 - 1) s)) := p3
    have hD3a : zia σa3 (A 1) = D := (mPt_A (σ := σa2) hMa2 fr3 (k := 1) (by decide)).trans hD2a
    have ebhs3a := hs3a.2.2.2.2.2.2.2
    refine zF_istore_n 42 (ls' := [(2, zI (tNumV t L 0 ((D 0) - 1) (tNumS t L 0 (D 2 - 1) s))), (1, zI (tNumV t L 0 ((D 2) - 1) s)), (0, zR hm)]) dX12_readPrints_41 rfl (by decide) rfl ?_
    refine zF_aload_n 43 dX12_readPrints_42 rfl rfl ?_
    refine zF_iconst 44 dX12_readPrints_43 rfl ?_
    refine zF_bipush 46 dX12_readPrints_44 rfl (by decide) ?_
    refine zF_callV 49 (d2 := (d + 7)) (as := [zI 0, zI 9]) dX12_readPrints_46 rfl kX12_404 iX12_readNumber (ci := 12) rfl eX12_readNumber (Nat.le_refl _) hMa3.1 hMa3.2.1 rfl rfl (Nat.le_of_ble_eq_true rfl) (zE.mono (zt_X12_readNumber (σ := σa3) hMa3 hxa3 hs3a (by first | decide | assumption | exact hv.b _ | (constructor <;> omega)) (by first | decide | assumption | exact hv.b _ | (constructor <;> omega)) (by omega)) fun ro σa4 hh4 => ?_)
    obtain ⟨er4, fr4, p4⟩ := hh4
    subst er4
    refine ⟨fr4.1, ?_⟩
    show zF G mX12_readPrints (d + 8) 49 [(2, zI (tNumV t L 0 ((D 0) - 1) (tNumS t L 0 (D 2 - 1) s))), (1, zI (tNumV t L 0 ((D 2) - 1) s)), (0, zR hm)] [zI (tNumV t L 0 9 (tNumS t L 0 ((D 0) - 1) (tNumS t L 0 (D 2 - 1) s)))] σa4 _
    have hMa4 := zMo_f2 (σ := σa3) fr4 hMa3
    have hxa4 := mTx_t (σ := σa3) hMa3 hxa3 fr4
    have hs4a : mTs σa4 hm t L (tNumS t L 0 9 (tNumS t L 0 ((D 0) - 1) (tNumS t L 0 (D 2 - 1) s))) := p4
    have hD4a : zia σa4 (A 1) = D := (mPt_A (σ := σa3) hMa3 fr4 (k := 1) (by decide)).trans hD3a
    have ebhs4a := hs4a.2.2.2.2.2.2.2
    refine zF_istore_n 50 (ls' := [(3, zI (tNumV t L 0 9 (tNumS t L 0 ((D 0) - 1) (tNumS t L 0 (D 2 - 1) s)))), (2, zI (tNumV t L 0 ((D 0) - 1) (tNumS t L 0 (D 2 - 1) s))), (1, zI (tNumV t L 0 ((D 2) - 1) s)), (0, zR hm)]) dX12_readPrints_49 rfl (by decide) rfl ?_
    refine zF_aload_n 51 dX12_readPrints_50 rfl rfl ?_
    refine zF_getI 54 dX12_readPrints_51 rfl gX12_363 (by decide) (by decide) hMa4.1 hMa4.2.1 hs4a.2.2.2.2.2.1 ?_
    refine zF_if_ne 68 57 dX12_readPrints_54 rfl rfl (by first | decide | assumption | exact hv.b _ | (constructor <;> omega)) (fun c2 => ?_) (fun c2 => ?_)
    · exact zF_return dX12_readPrints_68 rfl ((by
    have e3 : (if tWd t L (zsbi 5) (tNumS t L 0 (D 2 - 1) s) then tAdv t L (tNumS t L 0 (D 2 - 1) s) else tNumS t L 0 (D 0 - 1) (tNumS t L 0 (D 2 - 1) s)) = (tNumS t L 0 (D 0 - 1) (tNumS t L 0 (D 2 - 1) s)) := if_neg (by assumption)
    have e4 : (if tWd t L (zsbi 5) (tNumS t L 0 (D 2 - 1) s) then (-1 : Int) else tNumV t L 0 (D 0 - 1) (tNumS t L 0 (D 2 - 1) s)) = (tNumV t L 0 (D 0 - 1) (tNumS t L 0 (D 2 - 1) s)) := if_neg (by assumption)
    have e : ldPr t L s D = (tNumS t L 0 9 (tNumS t L 0 (D 0 - 1) (tNumS t L 0 (D 2 - 1) s)), mSet D (154 + 5 * (tNumV t L 0 (D 2 - 1) s) + (tNumV t L 0 (D 0 - 1) (tNumS t L 0 (D 2 - 1) s)) + 1) (tNumV t L 0 9 (tNumS t L 0 (D 0 - 1) (tNumS t L 0 (D 2 - 1) s)))) := by unfold ldPr; dsimp only; rw [e3, e4]
    rw [e]
    exact ⟨rfl, ((((mPl_t fr1).tr (mPl_t fr2)).tr (mPl_t fr3)).tr (mPl_t fr4)), hs4a, fun z => absurd z (by omega)⟩))
    · have g1 := tNumS_2 (t := t) (L := L) (s := tNumS t L 0 (D 0 - 1) (tNumS t L 0 (D 2 - 1) s)) (lo := 0) (hi := 9) (by omega)
      have g2 := tNumS_2 (t := t) (L := L) g1.1
      have g3 := nb1 g2.1
      refine zF_aload_n 58 dX12_readPrints_57 rfl rfl ?_
      refine zF_getR 61 dX12_readPrints_58 rfl gX12_13 hMa4.1 hMa4.2.1 (zM_1 hMa4).1 ?_
      refine zF_iload_n 62 dX12_readPrints_61 rfl rfl ?_
      refine zF_iload_n 63 dX12_readPrints_62 rfl rfl ?_
      refine zF_callSi 66 (d2 := (d + 7)) (as := [zI (tNumV t L 0 ((D 2) - 1) s), zI (tNumV t L 0 ((D 0) - 1) (tNumS t L 0 (D 2 - 1) s))]) dX12_readPrints_63 rfl kX12_102 sX12_printsAt (Nat.le_refl _) rfl rfl (Nat.le_of_ble_eq_true rfl) (zt_X12_printsAt) ?_
      refine zF_iload_n 67 dX12_readPrints_66 rfl rfl ?_
      refine zF_iastore 68 dX12_readPrints_67 rfl (zM_1 hMa4).2.2 (zM_1 hMa4).2.1 (by omega) (by omega) ?_
      exact zF_return dX12_readPrints_68 rfl ((by
    have e3 : (if tWd t L (zsbi 5) (tNumS t L 0 (D 2 - 1) s) then tAdv t L (tNumS t L 0 (D 2 - 1) s) else tNumS t L 0 (D 0 - 1) (tNumS t L 0 (D 2 - 1) s)) = (tNumS t L 0 (D 0 - 1) (tNumS t L 0 (D 2 - 1) s)) := if_neg (by assumption)
    have e4 : (if tWd t L (zsbi 5) (tNumS t L 0 (D 2 - 1) s) then (-1 : Int) else tNumV t L 0 (D 0 - 1) (tNumS t L 0 (D 2 - 1) s)) = (tNumV t L 0 (D 0 - 1) (tNumS t L 0 (D 2 - 1) s)) := if_neg (by assumption)
    have e : ldPr t L s D = (tNumS t L 0 9 (tNumS t L 0 (D 0 - 1) (tNumS t L 0 (D 2 - 1) s)), mSet D (154 + 5 * (tNumV t L 0 (D 2 - 1) s) + (tNumV t L 0 (D 0 - 1) (tNumS t L 0 (D 2 - 1) s)) + 1) (tNumV t L 0 9 (tNumS t L 0 (D 0 - 1) (tNumS t L 0 (D 2 - 1) s)))) := by unfold ldPr; dsimp only; rw [e3, e4]
    rw [e]
    exact ⟨rfl, (zFr_si (Or.inr ⟨rfl, by omega, by omega⟩) ((((mPl_t fr1).tr (mPl_t fr2)).tr (mPl_t fr3)).tr (mPl_t fr4))), (mTs_A (σ := σa4) (k := 1) hMa4 (by decide) hs4a), fun _ => (mSet_mem hD4a)⟩))
  · have hqd := mTs_to hs2a (if_pos (by assumption))
    refine zF_iconst 25 dX12_readPrints_24 rfl ?_
    refine zF_goto 41 dX12_readPrints_25 rfl ?_
    refine zF_istore_n 42 (ls' := [(2, zI (-1)), (1, zI (tNumV t L 0 ((D 2) - 1) s)), (0, zR hm)]) dX12_readPrints_41 rfl (by decide) rfl ?_
    refine zF_aload_n 43 dX12_readPrints_42 rfl rfl ?_
    refine zF_iconst 44 dX12_readPrints_43 rfl ?_
    refine zF_bipush 46 dX12_readPrints_44 rfl (by decide) ?_
    refine zF_callV 49 (d2 := (d + 7)) (as := [zI 0, zI 9]) dX12_readPrints_46 rfl kX12_404 iX12_readNumber (ci := 12) rfl eX12_readNumber (Nat.le_refl _) hMa2.1 hMa2.2.1 rfl rfl (Nat.le_of_ble_eq_true rfl) (zE.mono (zt_X12_readNumber (σ := σa2) hMa2 hxa2 hqd (by first | decide | assumption | exact hv.b _ | (constructor <;> omega)) (by first | decide | assumption | exact hv.b _ | (constructor <;> omega)) (by omega)) fun ro σa5 hh5 => ?_)
    obtain ⟨er5, fr5, p5⟩ := hh5
    subst er5
    refine ⟨fr5.1, ?_⟩
    show zF G mX12_readPrints (d + 8) 49 [(2, zI (-1)), (1, zI (tNumV t L 0 ((D 2) - 1) s)), (0, zR hm)] [zI (tNumV t L 0 9 (tAdv t L (tNumS t L 0 (D 2 - 1) s)))] σa5 _
    have hMa5 := zMo_f2 (σ := σa2) fr5 hMa2
    have hxa5 := mTx_t (σ := σa2) hMa2 hxa2 fr5
    have hs5a : mTs σa5 hm t L (tNumS t L 0 9 (tAdv t L (tNumS t L 0 (D 2 - 1) s))) := p5
    have hD5a : zia σa5 (A 1) = D := (mPt_A (σ := σa2) hMa2 fr5 (k := 1) (by decide)).trans hD2a
    have ebhs5a := hs5a.2.2.2.2.2.2.2
    refine zF_istore_n 50 (ls' := [(3, zI (tNumV t L 0 9 (tAdv t L (tNumS t L 0 (D 2 - 1) s)))), (2, zI (-1)), (1, zI (tNumV t L 0 ((D 2) - 1) s)), (0, zR hm)]) dX12_readPrints_49 rfl (by decide) rfl ?_
    refine zF_aload_n 51 dX12_readPrints_50 rfl rfl ?_
    refine zF_getI 54 dX12_readPrints_51 rfl gX12_363 (by decide) (by decide) hMa5.1 hMa5.2.1 hs5a.2.2.2.2.2.1 ?_
    refine zF_if_ne 68 57 dX12_readPrints_54 rfl rfl (by first | decide | assumption | exact hv.b _ | (constructor <;> omega)) (fun c3 => ?_) (fun c3 => ?_)
    · exact zF_return dX12_readPrints_68 rfl ((by
    have e3 : (if tWd t L (zsbi 5) (tNumS t L 0 (D 2 - 1) s) then tAdv t L (tNumS t L 0 (D 2 - 1) s) else tNumS t L 0 (D 0 - 1) (tNumS t L 0 (D 2 - 1) s)) = (tAdv t L (tNumS t L 0 (D 2 - 1) s)) := if_pos (by assumption)
    have e4 : (if tWd t L (zsbi 5) (tNumS t L 0 (D 2 - 1) s) then (-1 : Int) else tNumV t L 0 (D 0 - 1) (tNumS t L 0 (D 2 - 1) s)) = (-1) := if_pos (by assumption)
    have e : ldPr t L s D = (tNumS t L 0 9 (tAdv t L (tNumS t L 0 (D 2 - 1) s)), mSet D (154 + 5 * (tNumV t L 0 (D 2 - 1) s) + (-1) + 1) (tNumV t L 0 9 (tAdv t L (tNumS t L 0 (D 2 - 1) s)))) := by unfold ldPr; dsimp only; rw [e3, e4]
    rw [e]
    exact ⟨rfl, (((mPl_t fr1).tr (mPl_t fr2)).tr (mPl_t fr5)), hs5a, fun z => absurd z (by omega)⟩))
    · have g1 := tNumS_2 (t := t) (L := L) (s := tAdv t L (tNumS t L 0 (D 2 - 1) s)) (lo := 0) (hi := 9) (by omega)
      have g2 : (tNumS t L 0 (D 2 - 1) s).2 = 0 := tAdv_2.symm.trans g1.1
      have g3 := nb1 g2
      refine zF_aload_n 58 dX12_readPrints_57 rfl rfl ?_
      refine zF_getR 61 dX12_readPrints_58 rfl gX12_13 hMa5.1 hMa5.2.1 (zM_1 hMa5).1 ?_
      refine zF_iload_n 62 dX12_readPrints_61 rfl rfl ?_
      refine zF_iload_n 63 dX12_readPrints_62 rfl rfl ?_
      refine zF_callSi 66 (d2 := (d + 7)) (as := [zI (tNumV t L 0 ((D 2) - 1) s), zI (-1)]) dX12_readPrints_63 rfl kX12_102 sX12_printsAt (Nat.le_refl _) rfl rfl (Nat.le_of_ble_eq_true rfl) (zt_X12_printsAt) ?_
      refine zF_iload_n 67 dX12_readPrints_66 rfl rfl ?_
      refine zF_iastore 68 dX12_readPrints_67 rfl (zM_1 hMa5).2.2 (zM_1 hMa5).2.1 (by omega) (by omega) ?_
      exact zF_return dX12_readPrints_68 rfl ((by
    have e3 : (if tWd t L (zsbi 5) (tNumS t L 0 (D 2 - 1) s) then tAdv t L (tNumS t L 0 (D 2 - 1) s) else tNumS t L 0 (D 0 - 1) (tNumS t L 0 (D 2 - 1) s)) = (tAdv t L (tNumS t L 0 (D 2 - 1) s)) := if_pos (by assumption)
    have e4 : (if tWd t L (zsbi 5) (tNumS t L 0 (D 2 - 1) s) then (-1 : Int) else tNumV t L 0 (D 0 - 1) (tNumS t L 0 (D 2 - 1) s)) = (-1) := if_pos (by assumption)
    have e : ldPr t L s D = (tNumS t L 0 9 (tAdv t L (tNumS t L 0 (D 2 - 1) s)), mSet D (154 + 5 * (tNumV t L 0 (D 2 - 1) s) + (-1) + 1) (tNumV t L 0 9 (tAdv t L (tNumS t L 0 (D 2 - 1) s)))) := by unfold ldPr; dsimp only; rw [e3, e4]
    rw [e]
    exact ⟨rfl, (zFr_si (Or.inr ⟨rfl, by omega, by omega⟩) (((mPl_t fr1).tr (mPl_t fr2)).tr (mPl_t fr5))), (mTs_A (σ := σa5) (k := 1) hMa5 (by decide) hs5a), fun _ => (mSet_mem hD5a)⟩))
theorem zt_X12_readClause  (hG : zOS G) (hM : zMo σ hm A) (hx : mTx σ A t L) (hs : mTs σ hm t L s) (hD : zia σ (A 1) = D) (hv : ldV D) (h0 : s.2 = 0) : zE G mX12_readClause (d + 9) [zR hm] σ (fun ro σ1 => ro = .inl none ∧ zFr (mPl hm A) σ σ1 ∧ mTs σ1 hm t L (ldC t L (s, D)).1 ∧ ((ldC t L (s, D)).1.2 = 0 → zia σ1 (A 1) = (ldC t L (s, D)).2)) := by
  refine zE_of rfl (by simp [zcat]) (Nat.le_of_ble_eq_true rfl) ?_
  show zF G mX12_readClause (d + 9) 0 [(0, zR hm)] [] σ _
  have hlt := mTs_lt hs
  have hl7 := hx.1
  have hn := hv.n
  refine zF_aload_n 1 dX12_readClause_0 rfl rfl ?_
  refine zF_ldcS 3 (i := 31) dX12_readClause_1 rfl rfl ?_
  refine zF_callVi 6 (d2 := (d + 8)) (as := [zR (zbg + 31)]) dX12_readClause_3 rfl kX12_378 iX12_isWord (ci := 12) rfl eX12_isWord (Nat.le_refl _) hM.1 hM.2.1 rfl rfl (Nat.le_of_ble_eq_true rfl) (zt_X12_isWord (σ := σ) (i := 31) hM hx hs hG (by decide)) ?_
  refine zF_ifb_eq 16 9 dX12_readClause_6 rfl rfl (fun c1 => ?_) (fun c1 => ?_)
  · refine zF_aload_n 17 dX12_readClause_16 rfl rfl ?_
    refine zF_ldcS 19 (i := 30) dX12_readClause_17 rfl rfl ?_
    refine zF_callVi 22 (d2 := (d + 8)) (as := [zR (zbg + 30)]) dX12_readClause_19 rfl kX12_378 iX12_isWord (ci := 12) rfl eX12_isWord (Nat.le_refl _) hM.1 hM.2.1 rfl rfl (Nat.le_of_ble_eq_true rfl) (zt_X12_isWord (σ := σ) (i := 30) hM hx hs hG (by decide)) ?_
    refine zF_ifb_eq 32 25 dX12_readClause_22 rfl rfl (fun c2 => ?_) (fun c2 => ?_)
    · refine zF_aload_n 33 dX12_readClause_32 rfl rfl ?_
      refine zF_ldcSW 36 (i := 41) dX12_readClause_33 rfl rfl ?_
      refine zF_callVi 39 (d2 := (d + 8)) (as := [zR (zbg + 41)]) dX12_readClause_36 rfl kX12_378 iX12_isWord (ci := 12) rfl eX12_isWord (Nat.le_refl _) hM.1 hM.2.1 rfl rfl (Nat.le_of_ble_eq_true rfl) (zt_X12_isWord (σ := σ) (i := 41) hM hx hs hG (by decide)) ?_
      refine zF_ifb_eq 49 42 dX12_readClause_39 rfl rfl (fun c3 => ?_) (fun c3 => ?_)
      · refine zF_aload_n 50 dX12_readClause_49 rfl rfl ?_
        refine zF_ldcSW 53 (i := 42) dX12_readClause_50 rfl rfl ?_
        refine zF_callV 56 (d2 := (d + 8)) (as := [zR (zbg + 42)]) dX12_readClause_53 rfl kX12_415 iX12_accept (ci := 12) rfl eX12_accept (Nat.le_refl _) hM.1 hM.2.1 rfl rfl (Nat.le_of_ble_eq_true rfl) (zE.mono (zt_X12_accept (σ := σ) (i := 42) hM hx hs hG (by decide)) fun ro σa1 hh1 => ?_)
        obtain ⟨er1, fr1, p1⟩ := hh1
        subst er1
        refine ⟨fr1.1, ?_⟩
        show zF G mX12_readClause (d + 9) 56 [(0, zR hm)] [zI (zb (tWd t L (zsbi 4) s))] σa1 _
        have hMa1 := zMo_f2 (σ := σ) fr1 hM
        have hxa1 := mTx_t (σ := σ) hM hx fr1
        have hs1a : mTs σa1 hm t L (if tWd t L (zsbi 4) s then tAdv t L s else s) := p1
        have hD1a : zia σa1 (A 1) = D := (mPt_A (σ := σ) hM fr1 (k := 1) (by decide)).trans hD
        have ebhs1a := hs1a.2.2.2.2.2.2.2
        refine zF_ifb_eq 66 59 dX12_readClause_56 rfl rfl (fun c4 => ?_) (fun c4 => ?_)
        · have hqh := mTs_to hs1a (if_neg (by assumption))
          refine zF_aload_n 67 dX12_readClause_66 rfl rfl ?_
          refine zF_ldcSW 70 (i := 44) dX12_readClause_67 rfl rfl ?_
          refine zF_callV 73 (d2 := (d + 8)) (as := [zR (zbg + 44)]) dX12_readClause_70 rfl kX12_436 iX12_expectWord (ci := 12) rfl eX12_expectWord (Nat.le_refl _) hMa1.1 hMa1.2.1 rfl rfl (Nat.le_of_ble_eq_true rfl) (zE.mono (zt_X12_expectWord (σ := σa1) (i := 44) hMa1 hxa1 hqh hG (by decide)) fun ro σa2 hh2 => ?_)
          obtain ⟨er2, fr2, p2⟩ := hh2
          subst er2
          refine ⟨fr2.1, ?_⟩
          show zF G mX12_readClause (d + 9) 73 [(0, zR hm)] [] σa2 _
          have hMa2 := zMo_f2 (σ := σa1) fr2 hMa1
          have hxa2 := mTx_t (σ := σa1) hMa1 hxa1 fr2
          have hs2a : mTs σa2 hm t L (tWdS t L (zsbi 6) s) := p2
          have hD2a : zia σa2 (A 1) = D := (mPt_A (σ := σa1) hMa1 fr2 (k := 1) (by decide)).trans hD1a
          have ebhs2a := hs2a.2.2.2.2.2.2.2
          refine zF_aload_n 74 dX12_readClause_73 rfl rfl ?_
          refine zF_getR 77 dX12_readClause_74 rfl gX12_13 hMa2.1 hMa2.2.1 (zM_1 hMa2).1 ?_
          refine zF_iconst 78 dX12_readClause_77 rfl ?_
          refine zF_aload_n 79 dX12_readClause_78 rfl rfl ?_
          refine zF_iconst 80 dX12_readClause_79 rfl ?_
          refine zF_sipush 83 dX12_readClause_80 rfl (by decide) ?_
          refine zF_callV 86 (d2 := (d + 8)) (as := [zI 0, zI 999]) dX12_readClause_83 rfl kX12_404 iX12_readNumber (ci := 12) rfl eX12_readNumber (Nat.le_refl _) hMa2.1 hMa2.2.1 rfl rfl (Nat.le_of_ble_eq_true rfl) (zE.mono (zt_X12_readNumber (σ := σa2) hMa2 hxa2 hs2a (by first | decide | assumption | exact hv.b _ | (constructor <;> omega)) (by first | decide | assumption | exact hv.b _ | (constructor <;> omega)) (by omega)) fun ro σa3 hh3 => ?_)
          obtain ⟨er3, fr3, p3⟩ := hh3
          subst er3
          refine ⟨fr3.1, ?_⟩
          show zF G mX12_readClause (d + 9) 86 [(0, zR hm)] [zI (tNumV t L 0 999 (tWdS t L (zsbi 6) s)), zI 4, zR (A 1)] σa3 _
          have hMa3 := zMo_f2 (σ := σa2) fr3 hMa2
          have hxa3 := mTx_t (σ := σa2) hMa2 hxa2 fr3
          have hs3a : mTs σa3 hm t L (tNumS t L 0 999 (tWdS t L (zsbi 6) s)) := p3
          have hD3a : zia σa3 (A 1) = D := (mPt_A (σ := σa2) hMa2 fr3 (k := 1) (by decide)).trans hD2a
          have ebhs3a := hs3a.2.2.2.2.2.2.2
          refine zF_iastore 87 dX12_readClause_86 rfl (zM_1 hMa3).2.2 (zM_1 hMa3).2.1 (by omega) (by omega) ?_
          refine zF_aload_n 88 dX12_readClause_87 rfl rfl ?_
          refine zF_bipush 90 dX12_readClause_88 rfl (by decide) ?_
          refine zF_callV 93 (d2 := (d + 8)) (as := [zI 59]) dX12_readClause_90 rfl kX12_440 iX12_expect (ci := 12) rfl eX12_expect (Nat.le_refl _) hMa3.1 hMa3.2.1 rfl rfl (Nat.le_of_ble_eq_true rfl) (zE.mono (zt_X12_expect (σ := (zsi σa3 (A 1) 4 (tNumV t L 0 999 (tWdS t L (zsbi 6) s)))) hMa3 (mTx_A (σ := σa3) (k := 1) hMa3 (by decide) (by decide) hxa3) (mTs_A (σ := σa3) (k := 1) hMa3 (by decide) hs3a) (by decide) (by decide)) fun ro σa4 hh4 => ?_)
          obtain ⟨er4, fr4, p4⟩ := hh4
          subst er4
          refine ⟨fr4.1, ?_⟩
          show zF G mX12_readClause (d + 9) 93 [(0, zR hm)] [] σa4 _
          have hMa4 := zMo_f2 (σ := (zsi σa3 (A 1) 4 (tNumV t L 0 999 (tWdS t L (zsbi 6) s)))) fr4 hMa3
          have hxa4 := mTx_t (σ := (zsi σa3 (A 1) 4 (tNumV t L 0 999 (tWdS t L (zsbi 6) s)))) hMa3 (mTx_A (σ := σa3) (k := 1) hMa3 (by decide) (by decide) hxa3) fr4
          have hs4a : mTs σa4 hm t L (tSgS t L 59 (tNumS t L 0 999 (tWdS t L (zsbi 6) s))) := p4
          have hD4a : zia σa4 (A 1) = (mSet D 4 (tNumV t L 0 999 (tWdS t L (zsbi 6) s))) := (mPt_A (σ := (zsi σa3 (A 1) 4 (tNumV t L 0 999 (tWdS t L (zsbi 6) s)))) hMa3 fr4 (k := 1) (by decide)).trans (mSet_mem hD3a)
          have ebhs4a := hs4a.2.2.2.2.2.2.2
          exact zF_return dX12_readClause_93 rfl ((by
    have eb : ldB t L (s, D) = (tNumS t L 0 999 (tWdS t L (zsbi 6) s), (mSet D 4 (tNumV t L 0 999 (tWdS t L (zsbi 6) s)))) := (if_neg (by assumption)).trans ((if_neg (by assumption)).trans ((if_neg (by assumption)).trans (if_neg (by assumption))))
    have e : ldC t L (s, D) = (tSgS t L 59 (tNumS t L 0 999 (tWdS t L (zsbi 6) s), (mSet D 4 (tNumV t L 0 999 (tWdS t L (zsbi 6) s)))).1, (tNumS t L 0 999 (tWdS t L (zsbi 6) s), (mSet D 4 (tNumV t L 0 999 (tWdS t L (zsbi 6) s)))).2) := congrArg (fun q => (tSgS t L 59 q.1, q.2)) eb
    rw [e]
    exact ⟨rfl, ((zFr_si (Or.inr ⟨rfl, by omega, by omega⟩) (((mPl_t fr1).tr (mPl_t fr2)).tr (mPl_t fr3))).tr (mPl_t fr4)), hs4a, fun _ => hD4a⟩))
        · have hqd := mTs_to hs1a (if_pos (by assumption))
          refine zF_aload_n 60 dX12_readClause_59 rfl rfl ?_
          refine zF_callV 63 (d2 := (d + 8)) (as := []) dX12_readClause_60 rfl kX12_431 iX12_readPrints (ci := 12) rfl eX12_readPrints (Nat.le_refl _) hMa1.1 hMa1.2.1 rfl rfl (Nat.le_of_ble_eq_true rfl) (zE.mono (zt_X12_readPrints (σ := σa1) hG hMa1 hxa1 hqd hD1a hv) fun ro σa5 hh5 => ?_)
          obtain ⟨er5, fr5, p5⟩ := hh5
          subst er5
          refine ⟨fr5.1, ?_⟩
          show zF G mX12_readClause (d + 9) 63 [(0, zR hm)] [] σa5 _
          have hMa5 := zMo_f2 (σ := σa1) fr5 hMa1
          have hxa5 := mTx_l (σ := σa1) hMa1 hxa1 fr5
          have hs5a : mTs σa5 hm t L (ldPrints t L (s, D)).1 := p5.1
          refine zF_goto 87 dX12_readClause_63 rfl ?_
          refine zF_aload_n 88 dX12_readClause_87 rfl rfl ?_
          refine zF_bipush 90 dX12_readClause_88 rfl (by decide) ?_
          refine zF_callV 93 (d2 := (d + 8)) (as := [zI 59]) dX12_readClause_90 rfl kX12_440 iX12_expect (ci := 12) rfl eX12_expect (Nat.le_refl _) hMa5.1 hMa5.2.1 rfl rfl (Nat.le_of_ble_eq_true rfl) (zE.mono (zt_X12_expect (σ := σa5) hMa5 hxa5 hs5a (by decide) (by decide)) fun ro σa6 hh6 => ?_)
          obtain ⟨er6, fr6, p6⟩ := hh6
          subst er6
          refine ⟨fr6.1, ?_⟩
          show zF G mX12_readClause (d + 9) 93 [(0, zR hm)] [] σa6 _
          have hMa6 := zMo_f2 (σ := σa5) fr6 hMa5
          have hxa6 := mTx_t (σ := σa5) hMa5 hxa5 fr6
          have hs6a : mTs σa6 hm t L (tSgS t L 59 (ldPrints t L (s, D)).1) := p6
          have ebhs6a := hs6a.2.2.2.2.2.2.2
          exact zF_return dX12_readClause_93 rfl ((by
    have eb : ldB t L (s, D) = (ldPrints t L (s, D)) := (if_neg (by assumption)).trans ((if_neg (by assumption)).trans ((if_neg (by assumption)).trans (if_pos (by assumption))))
    have e : ldC t L (s, D) = (tSgS t L 59 (ldPrints t L (s, D)).1, (ldPrints t L (s, D)).2) := congrArg (fun q => (tSgS t L 59 q.1, q.2)) eb
    rw [e]
    exact ⟨rfl, (((mPl_t fr1).tr fr5).tr (mPl_t fr6)), hs6a, fun z => (mPt_A (σ := σa5) hMa5 fr6 (k := 1) (by decide)).trans (p5.2 (tSgS_2 z))⟩))
      · refine zF_aload_n 43 dX12_readClause_42 rfl rfl ?_
        refine zF_callV 46 (d2 := (d + 8)) (as := []) dX12_readClause_43 rfl kX12_426 iX12_readFilm (ci := 12) rfl eX12_readFilm (Nat.le_refl _) hM.1 hM.2.1 rfl rfl (Nat.le_of_ble_eq_true rfl) (zE.mono (zt_X12_readFilm (σ := σ) hG hM hx hs hD hv h0) fun ro σa7 hh7 => ?_)
        obtain ⟨er7, fr7, p7⟩ := hh7
        subst er7
        refine ⟨fr7.1, ?_⟩
        show zF G mX12_readClause (d + 9) 46 [(0, zR hm)] [] σa7 _
        have hMa7 := zMo_f2 (σ := σ) fr7 hM
        have hxa7 := mTx_l (σ := σ) hM hx fr7
        have hs7a : mTs σa7 hm t L (ldFilm t L (s, D)).1 := p7.1
        refine zF_goto 87 dX12_readClause_46 rfl ?_
        refine zF_aload_n 88 dX12_readClause_87 rfl rfl ?_
        refine zF_bipush 90 dX12_readClause_88 rfl (by decide) ?_
        refine zF_callV 93 (d2 := (d + 8)) (as := [zI 59]) dX12_readClause_90 rfl kX12_440 iX12_expect (ci := 12) rfl eX12_expect (Nat.le_refl _) hMa7.1 hMa7.2.1 rfl rfl (Nat.le_of_ble_eq_true rfl) (zE.mono (zt_X12_expect (σ := σa7) hMa7 hxa7 hs7a (by decide) (by decide)) fun ro σa8 hh8 => ?_)
        obtain ⟨er8, fr8, p8⟩ := hh8
        subst er8
        refine ⟨fr8.1, ?_⟩
        show zF G mX12_readClause (d + 9) 93 [(0, zR hm)] [] σa8 _
        have hMa8 := zMo_f2 (σ := σa7) fr8 hMa7
        have hxa8 := mTx_t (σ := σa7) hMa7 hxa7 fr8
        have hs8a : mTs σa8 hm t L (tSgS t L 59 (ldFilm t L (s, D)).1) := p8
        have ebhs8a := hs8a.2.2.2.2.2.2.2
        exact zF_return dX12_readClause_93 rfl ((by
    have eb : ldB t L (s, D) = (ldFilm t L (s, D)) := (if_neg (by assumption)).trans ((if_neg (by assumption)).trans (if_pos (by assumption)))
    have e : ldC t L (s, D) = (tSgS t L 59 (ldFilm t L (s, D)).1, (ldFilm t L (s, D)).2) := congrArg (fun q => (tSgS t L 59 q.1, q.2)) eb
    rw [e]
    exact ⟨rfl, (fr7.tr (mPl_t fr8)), hs8a, fun z => (mPt_A (σ := σa7) hMa7 fr8 (k := 1) (by decide)).trans (p7.2 (tSgS_2 z))⟩))
    · refine zF_aload_n 26 dX12_readClause_25 rfl rfl ?_
      refine zF_callV 29 (d2 := (d + 8)) (as := []) dX12_readClause_26 rfl kX12_421 iX12_readScreen (ci := 12) rfl eX12_readScreen (Nat.le_refl _) hM.1 hM.2.1 rfl rfl (Nat.le_of_ble_eq_true rfl) (zE.mono (zt_X12_readScreen (σ := σ) hG hM hx hs hD hv h0) fun ro σa9 hh9 => ?_)
      obtain ⟨er9, fr9, p9⟩ := hh9
      subst er9
      refine ⟨fr9.1, ?_⟩
      show zF G mX12_readClause (d + 9) 29 [(0, zR hm)] [] σa9 _
      have hMa9 := zMo_f2 (σ := σ) fr9 hM
      have hxa9 := mTx_l (σ := σ) hM hx fr9
      have hs9a : mTs σa9 hm t L (ldScreen t L (s, D)).1 := p9.1
      refine zF_goto 87 dX12_readClause_29 rfl ?_
      refine zF_aload_n 88 dX12_readClause_87 rfl rfl ?_
      refine zF_bipush 90 dX12_readClause_88 rfl (by decide) ?_
      refine zF_callV 93 (d2 := (d + 8)) (as := [zI 59]) dX12_readClause_90 rfl kX12_440 iX12_expect (ci := 12) rfl eX12_expect (Nat.le_refl _) hMa9.1 hMa9.2.1 rfl rfl (Nat.le_of_ble_eq_true rfl) (zE.mono (zt_X12_expect (σ := σa9) hMa9 hxa9 hs9a (by decide) (by decide)) fun ro σa10 hh10 => ?_)
      obtain ⟨er10, fr10, p10⟩ := hh10
      subst er10
      refine ⟨fr10.1, ?_⟩
      show zF G mX12_readClause (d + 9) 93 [(0, zR hm)] [] σa10 _
      have hMa10 := zMo_f2 (σ := σa9) fr10 hMa9
      have hxa10 := mTx_t (σ := σa9) hMa9 hxa9 fr10
      have hs10a : mTs σa10 hm t L (tSgS t L 59 (ldScreen t L (s, D)).1) := p10
      have ebhs10a := hs10a.2.2.2.2.2.2.2
      exact zF_return dX12_readClause_93 rfl ((by
    have eb : ldB t L (s, D) = (ldScreen t L (s, D)) := (if_neg (by assumption)).trans (if_pos (by assumption))
    have e : ldC t L (s, D) = (tSgS t L 59 (ldScreen t L (s, D)).1, (ldScreen t L (s, D)).2) := congrArg (fun q => (tSgS t L 59 q.1, q.2)) eb
    rw [e]
    exact ⟨rfl, (fr9.tr (mPl_t fr10)), hs10a, fun z => (mPt_A (σ := σa9) hMa9 fr10 (k := 1) (by decide)).trans (p9.2 (tSgS_2 z))⟩))
  · refine zF_aload_n 10 dX12_readClause_9 rfl rfl ?_
    refine zF_callV 13 (d2 := (d + 8)) (as := []) dX12_readClause_10 rfl kX12_418 iX12_readHouse (ci := 12) rfl eX12_readHouse (Nat.le_refl _) hM.1 hM.2.1 rfl rfl (Nat.le_of_ble_eq_true rfl) (zE.mono (zt_X12_readHouse (σ := σ) hG hM hx hs hD hv h0) fun ro σa11 hh11 => ?_)
    obtain ⟨er11, fr11, p11⟩ := hh11
    subst er11
    refine ⟨fr11.1, ?_⟩
    show zF G mX12_readClause (d + 9) 13 [(0, zR hm)] [] σa11 _
    have hMa11 := zMo_f2 (σ := σ) fr11 hM
    have hxa11 := mTx_l (σ := σ) hM hx fr11
    have hs11a : mTs σa11 hm t L (ldHouse t L (s, D)).1 := p11.1
    refine zF_goto 87 dX12_readClause_13 rfl ?_
    refine zF_aload_n 88 dX12_readClause_87 rfl rfl ?_
    refine zF_bipush 90 dX12_readClause_88 rfl (by decide) ?_
    refine zF_callV 93 (d2 := (d + 8)) (as := [zI 59]) dX12_readClause_90 rfl kX12_440 iX12_expect (ci := 12) rfl eX12_expect (Nat.le_refl _) hMa11.1 hMa11.2.1 rfl rfl (Nat.le_of_ble_eq_true rfl) (zE.mono (zt_X12_expect (σ := σa11) hMa11 hxa11 hs11a (by decide) (by decide)) fun ro σa12 hh12 => ?_)
    obtain ⟨er12, fr12, p12⟩ := hh12
    subst er12
    refine ⟨fr12.1, ?_⟩
    show zF G mX12_readClause (d + 9) 93 [(0, zR hm)] [] σa12 _
    have hMa12 := zMo_f2 (σ := σa11) fr12 hMa11
    have hxa12 := mTx_t (σ := σa11) hMa11 hxa11 fr12
    have hs12a : mTs σa12 hm t L (tSgS t L 59 (ldHouse t L (s, D)).1) := p12
    have ebhs12a := hs12a.2.2.2.2.2.2.2
    exact zF_return dX12_readClause_93 rfl ((by
    have eb : ldB t L (s, D) = (ldHouse t L (s, D)) := if_pos (by assumption)
    have e : ldC t L (s, D) = (tSgS t L 59 (ldHouse t L (s, D)).1, (ldHouse t L (s, D)).2) := congrArg (fun q => (tSgS t L 59 q.1, q.2)) eb
    rw [e]
    exact ⟨rfl, (fr11.tr (mPl_t fr12)), hs12a, fun z => (mPt_A (σ := σa11) hMa11 fr12 (k := 1) (by decide)).trans (p11.2 (tSgS_2 z))⟩))
end ZML

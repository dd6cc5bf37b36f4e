/-! the reference: a chain's text -/
section ZML
variable {G : zG} {d : Nat} {σ σ0 : zMem} {hm : Nat} {A : Nat → Nat} {t : Int → Int} {L : Nat} {s : tS} {D : Int → Int}
def mPl (hm : Nat) (A : Nat → Nat) (h : Nat) (j : Int) : Prop := mPt hm h j ∨ h = A 1
theorem mPl_t {σ1 : zMem} (f : zFr (mPt hm) σ σ1) : zFr (mPl hm A) σ σ1 := f.wk fun _ _ q => Or.inl q
theorem mTs_A {k : Nat} {i v : Int} (hM : zMo σ hm A) (hk : k ∈ zmf.map (·.1)) (h : mTs σ hm t L s) : mTs (zsi σ (A k) i v) hm t L s := by
  have e : zia (zsi σ (A k) i v) hm = zia σ hm := zsi_at (Ne.symm (zMo_hm1 hM hk zMo_h1)) rfl
  unfold mTs at h ⊢
  rw [e]
  exact h
theorem mTx_A {k : Nat} {i v : Int} (hM : zMo σ hm A) (hk : k ∈ zmf.map (·.1)) (k18 : k ≠ 18) (h : mTx σ A t L) : mTx (zsi σ (A k) i v) A t L := by
  have e : zia (zsi σ (A k) i v) (A 18) = zia σ (A 18) := zsi_at (zMo_ne hM (by decide) hk (Ne.symm k18)) rfl
  unfold mTx at h ⊢
  rw [e]
  exact h
theorem mPl_N {σ1 : zMem} (hM : zMo σ hm A) (f : zFr (mPl hm A) σ σ1) {k : Nat} (hk : k ∈ zmf.map (·.1)) (k1 : k ≠ 1) : zia σ1 (A k) = zia σ (A k) := f.at fun j q => q.elim (fun q => zMo_hm1 hM hk zMo_h1 q.1) (zMo_ne hM hk (by decide) k1)
theorem mTx_l {σ1 : zMem} (hM : zMo σ hm A) (h : mTx σ A t L) (f : zFr (mPl hm A) σ σ1) : mTx σ1 A t L := mTx_fr h f fun j q => q.elim (fun q => zMo_hm1 hM (k := 18) (by decide) zMo_h1 q.1) (zMo_ne hM (j := 18) (k := 1) (by decide) (by decide) (by decide))
theorem mCn_b2 {h : Int} {n : Nat} : 0 ≤ mCn D h n ∧ mCn D h n ≤ n := by
  induction n with
  | zero => exact ⟨Int.le_refl _, Int.le_refl _⟩
  | succ n ih =>
    have e : mCn D h (n + 1) = mCn D h n + zb (mS D n 0 = h) := rfl
    have b := zb01 (mS D n 0 = h)
    rw [e]
    push_cast
    omega
theorem zt_X12_readHouse  (hG : zOS G) (hM : zMo σ hm A) (hx : mTx σ A t L) (hs : mTs σ hm t L s) (hD : zia σ (A 1) = D) (hv : ldV D) (h0 : s.2 = 0) : zE G mX12_readHouse (d + 8) [zR hm] σ (fun ro σ1 => ro = .inl none ∧ zFr (mPl hm A) σ σ1 ∧ mTs σ1 hm t L (ldHouse t L (s, D)).1 ∧ ((ldHouse t L (s, D)).1.2 = 0 → zia σ1 (A 1) = (ldHouse t L (s, D)).2)) := by
  refine zE_of rfl (by simp [zcat]) (Nat.le_of_ble_eq_true rfl) ?_
  show zF G mX12_readHouse (d + 8) 0 [(0, zR hm)] [] σ _
  have hlt := mTs_lt hs
  have hl7 := hx.1
  have hn := hv.n
  have h1 : (tAdv t L s).2 = 0 := tAdv_2.trans h0
  refine zF_aload_n 1 dX12_readHouse_0 rfl rfl ?_
  refine zF_aload_n 2 dX12_readHouse_1 rfl rfl ?_
  refine zF_getR 5 dX12_readHouse_2 rfl gX12_13 hM.1 hM.2.1 (zM_1 hM).1 ?_
  refine zF_iconst 6 dX12_readHouse_5 rfl ?_
  refine zF_iaload 7 dX12_readHouse_6 rfl (zM_1 hM).2.2 (zM_1 hM).2.1 (by omega) (by omega) (congrFun hD _) ?_
  refine zF_iconst 8 dX12_readHouse_7 rfl ?_
  refine zF_icmp_ge 15 11 dX12_readHouse_8 rfl rfl (by first | decide | assumption | exact hv.b _ | (constructor <;> omega)) (by first | decide | assumption | exact hv.b _ | (constructor <;> omega)) (fun c1 => ?_) (fun c1 => ?_)
  · refine zF_iconst 16 dX12_readHouse_15 rfl ?_
    refine zF_iconst 17 dX12_readHouse_16 rfl ?_
    refine zF_callV 20 (d2 := (d + 7)) (as := [zI 0, zI 3]) dX12_readHouse_17 rfl kX12_382 iX12_check (ci := 12) rfl eX12_check (Nat.le_refl _) hM.1 hM.2.1 rfl rfl (Nat.le_of_ble_eq_true rfl) (zE.mono (zt_X12_check (σ := σ) (P := False) (c := 3) hM hx hs rfl (by decide) (by decide)) fun ro σa1 hh1 => ?_)
    obtain ⟨er1, fr1, p1⟩ := hh1
    subst er1
    refine ⟨fr1.1, ?_⟩
    show zF G mX12_readHouse (d + 8) 20 [(0, zR hm)] [] σa1 _
    have hMa1 := zMo_f2 fr1 hM
    have hxa1 := mTx_t hM hx fr1
    have hs1a : mTs σa1 hm t L (s.1, 3) := mTs_to p1 ((if_neg id).trans (if_pos (by first | assumption | omega)) : (if False then s else tFail 3 s) = (s.1, 3))
    have hD1a : zia σa1 (A 1) = D := (mPt_A hM fr1 (k := 1) (by decide)).trans hD
    have ebhs1a := hs1a.2.2.2.2.2.2.2
    refine zF_aload_n 21 dX12_readHouse_20 rfl rfl ?_
    refine zF_callV 24 (d2 := (d + 7)) (as := []) dX12_readHouse_21 rfl kX12_386 iX12_advance (ci := 12) rfl eX12_advance (Nat.le_refl _) hMa1.1 hMa1.2.1 rfl rfl (Nat.le_of_ble_eq_true rfl) (zE.mono (zt_X12_advance (σ := σa1) hMa1 hxa1 hs1a) fun ro σa2 hh2 => ?_)
    obtain ⟨er2, fr2, p2⟩ := hh2
    subst er2
    refine ⟨fr2.1, ?_⟩
    show zF G mX12_readHouse (d + 8) 24 [(0, zR hm)] [] σa2 _
    have hMa2 := zMo_f2 fr2 hMa1
    have hxa2 := mTx_t hMa1 hxa1 fr2
    have hs2a : mTs σa2 hm t L (s.1, 3) := mTs_to p2 (tAdv_e (by show ¬ (3 : Int) = 0; decide))
    have hD2a : zia σa2 (A 1) = D := (mPt_A hMa1 fr2 (k := 1) (by decide)).trans hD1a
    have ebhs2a := hs2a.2.2.2.2.2.2.2
    refine zF_aload_n 25 dX12_readHouse_24 rfl rfl ?_
    refine zF_iconst 26 dX12_readHouse_25 rfl ?_
    refine zF_bipush 28 dX12_readHouse_26 rfl (by decide) ?_
    refine zF_callV 31 (d2 := (d + 7)) (as := [zI 1, zI 99]) dX12_readHouse_28 rfl kX12_404 iX12_readNumber (ci := 12) rfl eX12_readNumber (Nat.le_refl _) hMa2.1 hMa2.2.1 rfl rfl (Nat.le_of_ble_eq_true rfl) (zE.mono (zt_X12_readNumber (σ := σa2) hMa2 hxa2 hs2a (by first | decide | assumption | exact hv.b _ | (constructor <;> omega)) (by first | decide | assumption | exact hv.b _ | (constructor <;> omega)) (by omega)) fun ro σa3 hh3 => ?_)
    obtain ⟨er3, fr3, p3⟩ := hh3
    subst er3
    refine ⟨fr3.1, ?_⟩
    show zF G mX12_readHouse (d + 8) 31 [(0, zR hm)] [zI (tNumV t L 1 99 (s.1, 3))] σa3 _
    have hMa3 := zMo_f2 fr3 hMa2
    have hxa3 := mTx_t hMa2 hxa2 fr3
    have hs3a : mTs σa3 hm t L (s.1, 3) := mTs_to p3 (tNumS_e (by show ¬ (3 : Int) = 0; decide))
    have hD3a : zia σa3 (A 1) = D := (mPt_A hMa2 fr3 (k := 1) (by decide)).trans hD2a
    have ebhs3a := hs3a.2.2.2.2.2.2.2
    refine zF_istore_n 32 (ls' := [(1, zI (tNumV t L 1 99 (s.1, 3))), (0, zR hm)]) dX12_readHouse_31 rfl (by decide) rfl ?_
    refine zF_aload_n 33 dX12_readHouse_32 rfl rfl ?_
    refine zF_iconst 34 dX12_readHouse_33 rfl ?_
    refine zF_bipush 36 dX12_readHouse_34 rfl (by decide) ?_
    refine zF_callV 39 (d2 := (d + 7)) (as := [zI 1, zI 100]) dX12_readHouse_36 rfl kX12_404 iX12_readNumber (ci := 12) rfl eX12_readNumber (Nat.le_refl _) hMa3.1 hMa3.2.1 rfl rfl (Nat.le_of_ble_eq_true rfl) (zE.mono (zt_X12_readNumber (σ := σa3) hMa3 hxa3 hs3a (by first | decide | assumption | exact hv.b _ | (constructor <;> omega)) (by first | decide | assumption | exact hv.b _ | (constructor <;> omega)) (by omega)) fun ro σa4 hh4 => ?_)
    obtain ⟨er4, fr4, p4⟩ := hh4
    subst er4
    refine ⟨fr4.1, ?_⟩
    show zF G mX12_readHouse (d + 8) 39 [(1, zI (tNumV t L 1 99 (s.1, 3))), (0, zR hm)] [zI (tNumV t L 1 100 (s.1, 3))] σa4 _
    have hMa4 := zMo_f2 fr4 hMa3
    have hxa4 := mTx_t hMa3 hxa3 fr4
    have hs4a : mTs σa4 hm t L (s.1, 3) := mTs_to p4 (tNumS_e (by show ¬ (3 : Int) = 0; decide))
    have hD4a : zia σa4 (A 1) = D := (mPt_A hMa3 fr4 (k := 1) (by decide)).trans hD3a
    have ebhs4a := hs4a.2.2.2.2.2.2.2
    refine zF_istore_n 40 (ls' := [(2, zI (tNumV t L 1 100 (s.1, 3))), (1, zI (tNumV t L 1 99 (s.1, 3))), (0, zR hm)]) dX12_readHouse_39 rfl (by decide) rfl ?_
    refine zF_aload_n 41 dX12_readHouse_40 rfl rfl ?_
    refine zF_getI 44 dX12_readHouse_41 rfl gX12_363 (by decide) (by decide) hMa4.1 hMa4.2.1 hs4a.2.2.2.2.2.1 ?_
    refine zF_if_ne 89 47 dX12_readHouse_44 rfl rfl (by first | decide | assumption | exact hv.b _ | (constructor <;> omega)) (fun c2 => ?_) (fun c2 => ?_)
    · exact zF_return dX12_readHouse_89 rfl ((by
    have e : ldHouse t L (s, D) = ((s.1, 3), D) := (if_neg (by show ¬ D 0 < 4; omega)).trans (by rw [tFail_0 h0])
    rw [e]
    exact ⟨rfl, ((((mPl_t fr1).tr (mPl_t fr2)).tr (mPl_t fr3)).tr (mPl_t fr4)), hs4a, fun _ => hD4a⟩))
    · exact absurd c2 (by first | decide | simp)
  · refine zF_iconst 12 dX12_readHouse_11 rfl ?_
    refine zF_goto 16 dX12_readHouse_12 rfl ?_
    refine zF_iconst 17 dX12_readHouse_16 rfl ?_
    refine zF_callV 20 (d2 := (d + 7)) (as := [zI 1, zI 3]) dX12_readHouse_17 rfl kX12_382 iX12_check (ci := 12) rfl eX12_check (Nat.le_refl _) hM.1 hM.2.1 rfl rfl (Nat.le_of_ble_eq_true rfl) (zE.mono (zt_X12_check (σ := σ) (P := True) (c := 3) hM hx hs rfl (by decide) (by decide)) fun ro σa5 hh5 => ?_)
    obtain ⟨er5, fr5, p5⟩ := hh5
    subst er5
    refine ⟨fr5.1, ?_⟩
    show zF G mX12_readHouse (d + 8) 20 [(0, zR hm)] [] σa5 _
    have hMa5 := zMo_f2 fr5 hM
    have hxa5 := mTx_t hM hx fr5
    have hs5a : mTs σa5 hm t L s := mTs_to p5 (if_pos trivial)
    have hD5a : zia σa5 (A 1) = D := (mPt_A hM fr5 (k := 1) (by decide)).trans hD
    have ebhs5a := hs5a.2.2.2.2.2.2.2
    refine zF_aload_n 21 dX12_readHouse_20 rfl rfl ?_
    refine zF_callV 24 (d2 := (d + 7)) (as := []) dX12_readHouse_21 rfl kX12_386 iX12_advance (ci := 12) rfl eX12_advance (Nat.le_refl _) hMa5.1 hMa5.2.1 rfl rfl (Nat.le_of_ble_eq_true rfl) (zE.mono (zt_X12_advance (σ := σa5) hMa5 hxa5 hs5a) fun ro σa6 hh6 => ?_)
    obtain ⟨er6, fr6, p6⟩ := hh6
    subst er6
    refine ⟨fr6.1, ?_⟩
    show zF G mX12_readHouse (d + 8) 24 [(0, zR hm)] [] σa6 _
    have hMa6 := zMo_f2 fr6 hMa5
    have hxa6 := mTx_t hMa5 hxa5 fr6
    have hs6a : mTs σa6 hm t L (tAdv t L s) := p6
    have hD6a : zia σa6 (A 1) = D := (mPt_A hMa5 fr6 (k := 1) (by decide)).trans hD5a
    have ebhs6a := hs6a.2.2.2.2.2.2.2
    refine zF_aload_n 25 dX12_readHouse_24 rfl rfl ?_
    refine zF_iconst 26 dX12_readHouse_25 rfl ?_
    refine zF_bipush 28 dX12_readHouse_26 rfl (by decide) ?_
    refine zF_callV 31 (d2 := (d + 7)) (as := [zI 1, zI 99]) dX12_readHouse_28 rfl kX12_404 iX12_readNumber (ci := 12) rfl eX12_readNumber (Nat.le_refl _) hMa6.1 hMa6.2.1 rfl rfl (Nat.le_of_ble_eq_true rfl) (zE.mono (zt_X12_readNumber (σ := σa6) hMa6 hxa6 hs6a (by first | decide | assumption | exact hv.b _ | (constructor <;> omega)) (by first | decide | assumption | exact hv.b _ | (constructor <;> omega)) (by omega)) fun ro σa7 hh7 => ?_)
    obtain ⟨er7, fr7, p7⟩ := hh7
    subst er7
    refine ⟨fr7.1, ?_⟩
    show zF G mX12_readHouse (d + 8) 31 [(0, zR hm)] [zI (tNumV t L 1 99 (tAdv t L s))] σa7 _
    have hMa7 := zMo_f2 fr7 hMa6
    have hxa7 := mTx_t hMa6 hxa6 fr7
    have hs7a : mTs σa7 hm t L (tNumS t L 1 99 (tAdv t L s)) := p7
    have hD7a : zia σa7 (A 1) = D := (mPt_A hMa6 fr7 (k := 1) (by decide)).trans hD6a
    have ebhs7a := hs7a.2.2.2.2.2.2.2
    refine zF_istore_n 32 (ls' := [(1, zI (tNumV t L 1 99 (tAdv t L s))), (0, zR hm)]) dX12_readHouse_31 rfl (by decide) rfl ?_
    refine zF_aload_n 33 dX12_readHouse_32 rfl rfl ?_
    refine zF_iconst 34 dX12_readHouse_33 rfl ?_
    refine zF_bipush 36 dX12_readHouse_34 rfl (by decide) ?_
    refine zF_callV 39 (d2 := (d + 7)) (as := [zI 1, zI 100]) dX12_readHouse_36 rfl kX12_404 iX12_readNumber (ci := 12) rfl eX12_readNumber (Nat.le_refl _) hMa7.1 hMa7.2.1 rfl rfl (Nat.le_of_ble_eq_true rfl) (zE.mono (zt_X12_readNumber (σ := σa7) hMa7 hxa7 hs7a (by first | decide | assumption | exact hv.b _ | (constructor <;> omega)) (by first | decide | assumption | exact hv.b _ | (constructor <;> omega)) (by omega)) fun ro σa8 hh8 => ?_)
    obtain ⟨er8, fr8, p8⟩ := hh8
    subst er8
    refine ⟨fr8.1, ?_⟩
    show zF G mX12_readHouse (d + 8) 39 [(1, zI (tNumV t L 1 99 (tAdv t L s))), (0, zR hm)] [zI (tNumV t L 1 100 (tNumS t L 1 99 (tAdv t L s)))] σa8 _
    have hMa8 := zMo_f2 fr8 hMa7
    have hxa8 := mTx_t hMa7 hxa7 fr8
    have hs8a : mTs σa8 hm t L (tNumS t L 1 100 (tNumS t L 1 99 (tAdv t L s))) := p8
    have hD8a : zia σa8 (A 1) = D := (mPt_A hMa7 fr8 (k := 1) (by decide)).trans hD7a
    have ebhs8a := hs8a.2.2.2.2.2.2.2
    refine zF_istore_n 40 (ls' := [(2, zI (tNumV t L 1 100 (tNumS t L 1 99 (tAdv t L s)))), (1, zI (tNumV t L 1 99 (tAdv t L s))), (0, zR hm)]) dX12_readHouse_39 rfl (by decide) rfl ?_
    refine zF_aload_n 41 dX12_readHouse_40 rfl rfl ?_
    refine zF_getI 44 dX12_readHouse_41 rfl gX12_363 (by decide) (by decide) hMa8.1 hMa8.2.1 hs8a.2.2.2.2.2.1 ?_
    refine zF_if_ne 89 47 dX12_readHouse_44 rfl rfl (by first | decide | assumption | exact hv.b _ | (constructor <;> omega)) (fun c3 => ?_) (fun c3 => ?_)
    · exact zF_return dX12_readHouse_89 rfl ((by
    have e : (ldHouse t L (s, D)).1 = (tNumS t L 1 100 (tNumS t L 1 99 (tAdv t L s))) := ldHouse_s.trans (if_pos (by omega))
    rw [e]
    exact ⟨rfl, ((((mPl_t fr5).tr (mPl_t fr6)).tr (mPl_t fr7)).tr (mPl_t fr8)), hs8a, fun z => absurd z (by omega)⟩))
    · refine zF_aload_n 48 dX12_readHouse_47 rfl rfl ?_
      refine zF_getR 51 dX12_readHouse_48 rfl gX12_13 hMa8.1 hMa8.2.1 (zM_1 hMa8).1 ?_
      refine zF_aload_n 52 dX12_readHouse_51 rfl rfl ?_
      refine zF_getR 55 dX12_readHouse_52 rfl gX12_13 hMa8.1 hMa8.2.1 (zM_1 hMa8).1 ?_
      refine zF_iconst 56 dX12_readHouse_55 rfl ?_
      refine zF_iaload 57 dX12_readHouse_56 rfl (zM_1 hMa8).2.2 (zM_1 hMa8).2.1 (by omega) (by omega) (congrFun hD8a _) ?_
      refine zF_iconst 58 dX12_readHouse_57 rfl ?_
      refine zF_callSi 61 (d2 := (d + 7)) (as := [zI (D 0), zI 0]) dX12_readHouse_58 rfl kX12_92 sX12_houseAt (Nat.le_refl _) rfl rfl (Nat.le_of_ble_eq_true rfl) (zt_X12_houseAt) ?_
      refine zF_iload_n 62 dX12_readHouse_61 rfl rfl ?_
      refine zF_iastore 63 dX12_readHouse_62 rfl (zM_1 hMa8).2.2 (zM_1 hMa8).2.1 (by omega) (by omega) ?_
      refine zF_aload_n 64 dX12_readHouse_63 rfl rfl ?_
      refine zF_getR 67 dX12_readHouse_64 rfl gX12_13 hMa8.1 hMa8.2.1 (zM_1 hMa8).1 ?_
      refine zF_aload_n 68 dX12_readHouse_67 rfl rfl ?_
      refine zF_getR 71 dX12_readHouse_68 rfl gX12_13 hMa8.1 hMa8.2.1 (zM_1 hMa8).1 ?_
      refine zF_iconst 72 dX12_readHouse_71 rfl ?_
      refine zF_iaload 73 dX12_readHouse_72 rfl (zM_1 hMa8).2.2 (zM_1 hMa8).2.1 (by omega) (by omega) (show zia (zsi σa8 (A 1) (6 + 2 * (D 0) + 0) (tNumV t L 1 99 (tAdv t L s))) (A 1) 0 = D 0 from (congrFun (mSet_mem hD8a) _).trans (by repeat (first | rw [mSet_o (by omega)] | rw [mBook_o2 (by omega)]))) ?_
      refine zF_iconst 74 dX12_readHouse_73 rfl ?_
      refine zF_callSi 77 (d2 := (d + 7)) (as := [zI (D 0), zI 1]) dX12_readHouse_74 rfl kX12_92 sX12_houseAt (Nat.le_refl _) rfl rfl (Nat.le_of_ble_eq_true rfl) (zt_X12_houseAt) ?_
      refine zF_iload_n 78 dX12_readHouse_77 rfl rfl ?_
      refine zF_iastore 79 dX12_readHouse_78 rfl (zM_1 hMa8).2.2 (zM_1 hMa8).2.1 (by omega) (by omega) ?_
      refine zF_aload_n 80 dX12_readHouse_79 rfl rfl ?_
      refine zF_getR 83 dX12_readHouse_80 rfl gX12_13 hMa8.1 hMa8.2.1 (zM_1 hMa8).1 ?_
      refine zF_iconst 84 dX12_readHouse_83 rfl ?_
      refine zF_dup2 85 dX12_readHouse_84 rfl rfl rfl ?_
      refine zF_iaload 86 dX12_readHouse_85 rfl (zM_1 hMa8).2.2 (zM_1 hMa8).2.1 (by omega) (by omega) (show zia (zsi (zsi σa8 (A 1) (6 + 2 * (D 0) + 0) (tNumV t L 1 99 (tAdv t L s))) (A 1) (6 + 2 * (D 0) + 1) (tNumV t L 1 100 (tNumS t L 1 99 (tAdv t L s)))) (A 1) 0 = D 0 from (congrFun (mSet_mem (mSet_mem hD8a)) _).trans (by repeat (first | rw [mSet_o (by omega)] | rw [mBook_o2 (by omega)]))) ?_
      refine zF_iconst 87 dX12_readHouse_86 rfl ?_
      refine zF_iadd 88 dX12_readHouse_87 rfl ?_
      refine zF_iastore 89 dX12_readHouse_88 rfl (zM_1 hMa8).2.2 (zM_1 hMa8).2.1 (by omega) (by omega) ?_
      exact zF_return dX12_readHouse_89 rfl ((by
    have e : ldHouse t L (s, D) = ((tNumS t L 1 100 (tNumS t L 1 99 (tAdv t L s))), (mSet (mSet (mSet D (6 + 2 * (D 0) + 0) (tNumV t L 1 99 (tAdv t L s))) (6 + 2 * (D 0) + 1) (tNumV t L 1 100 (tNumS t L 1 99 (tAdv t L s)))) 0 ((D 0) + 1))) := if_pos (by show D 0 < 4; omega)
    rw [e]
    exact ⟨rfl, (zFr_si (Or.inr rfl) (zFr_si (Or.inr rfl) (zFr_si (Or.inr rfl) ((((mPl_t fr5).tr (mPl_t fr6)).tr (mPl_t fr7)).tr (mPl_t fr8))))), (mTs_A hMa8 (by decide) (mTs_A hMa8 (by decide) (mTs_A hMa8 (by decide) hs8a))), fun _ => (mSet_mem (mSet_mem (mSet_mem hD8a)))⟩))
end ZML

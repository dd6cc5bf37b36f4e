/-! the law's own chain: close -/
section ZE7
variable {G : zG} {M0 : zMeth} {d pc : Nat} {ls : List (Nat × zV)} {st : List zV} {σ : zMem} {Q : zRes → zMem → Prop} {E : Nat → Nat} {N M : Int → Int}
theorem eB_book {s a b c e : Int} (hb : eB M) (s0 : 0 ≤ s) (s1 : s < 10) : eB (mBook M s a b c e) := by
  obtain ⟨b0, b1, b2, b3⟩ := hb
  have o : ∀ {j : Int}, j < 14 ∨ 94 ≤ j → mBook M s a b c e j = M j := fun h => by
    unfold mBook
    rw [if_neg (by omega), if_neg (by omega), if_neg (by omega), if_neg (by omega)]
  refine ⟨by rw [o (by omega)]; exact b0, by rw [o (by omega)]; exact b1, by rw [o (by omega)]; exact b2, fun f f0 f1 => ?_⟩
  rw [o (by omega)] at f1
  show mBook M s a b c e (94 + 10 * f + 3) ≤ 4
  rw [o (by omega)]
  exact b3 f f0 f1
theorem zb_if {p q : Prop} [Decidable p] [Decidable q] (h : p ↔ q) : zb p = zb q := by
  unfold zb
  by_cases c : p
  · rw [if_pos c, if_pos (h.mp c)]
  · rw [if_neg c, if_neg (fun z => c (h.mpr z))]
theorem clW_at {σ1 : zMem} {a x : Nat} (w : clW N σ1 a (clA N 1)) (hx : x < 4) : zia σ1 a (x : Int) = clA N (x : Int) := by
  have c : x = 0 ∨ x = 1 ∨ x = 2 ∨ x = 3 := by omega
  rcases c with c | c | c | c <;> subst c
  · exact w.1
  · exact w.2.1
  · exact w.2.2.1
  · exact w.2.2.2
theorem kw_e {j : Int} (h : j < 212) : kwN N (clA N) 0 j = N j := by
  unfold kwN
  rw [if_neg (by omega), if_neg (by omega), if_neg (by omega), if_neg (by omega)]
theorem kw_st {x : Nat} (hx : x < 4) : mSet (kwN N (clA N) x) (208 + (x : Int)) (kwN N (clA N) x (208 + (x : Int)) + clA N (x : Int)) = kwN N (clA N) (x + 1) := kwN_s hx rfl (by
  congr 1
  unfold kwN
  rw [if_neg (by omega), if_pos (by omega)]
  congr 1
  omega)
/-- which films began: 1 or 0 -/
def bgI (N : Int → Int) (σ1 : zMem) (a x n : Nat) : Prop := ∀ f : Nat, f < nF N → (f < x → (zia σ1 a f = 1 ∧ obg N f (nH N)) ∨ (zia σ1 a f = 0 ∧ ¬ obg N f (nH N))) ∧ (f = x → (zia σ1 a f = 1 ∧ obg N f n) ∨ (zia σ1 a f = 0 ∧ ¬ obg N f n)) ∧ (x < f → zia σ1 a f = 0)
theorem bgI_yes {σ1 σ2 : zMem} {a x n : Nat} (b : bgI N σ1 a x n) (y : 0 < mNeed N n x) (e1 : zia σ2 a (x : Int) = 1) (e2 : ∀ f : Nat, f ≠ x → zia σ2 a f = zia σ1 a f) : bgI N σ2 a x (n + 1) := fun f hf => by
  have q := b f hf
  refine ⟨fun h => ?_, fun h => ?_, fun h => ?_⟩
  · rw [e2 f (by omega)]; exact q.1 h
  · subst h; exact Or.inl ⟨e1, n, by omega, y⟩
  · rw [e2 f (by omega)]; exact q.2.2 h
theorem bgI_no {σ1 : zMem} {a x n : Nat} (b : bgI N σ1 a x n) (y : ¬ 0 < mNeed N n x) : bgI N σ1 a x (n + 1) := fun f hf => by
  have q := b f hf
  refine ⟨q.1, fun h => ?_, q.2.2⟩
  subst h
  rcases q.2.1 rfl with ⟨z, k, k1, k2⟩ | ⟨z, k⟩
  · exact Or.inl ⟨z, k, by omega, k2⟩
  · refine Or.inr ⟨z, fun w => ?_⟩
    obtain ⟨i, i1, i2⟩ := w
    by_cases c : i = n
    · subst c; exact y i2
    · exact k ⟨i, by omega, i2⟩
theorem bgI_nx {σ1 : zMem} {a x : Nat} (b : bgI N σ1 a x (nH N)) : bgI N σ1 a (x + 1) 0 := fun f hf => by
  have q := b f hf
  refine ⟨fun h => ?_, fun h => Or.inr ⟨q.2.2 (by omega), fun w => by obtain ⟨i, i1, -⟩ := w; omega⟩, fun h => q.2.2 (by omega)⟩
  by_cases c : f = x
  · exact q.2.1 c
  · exact q.1 (by omega)
theorem bgI_fr {σ1 σ2 : zMem} {a x n : Nat} (b : bgI N σ1 a x n) (e : ∀ j, zia σ2 a j = zia σ1 a j) : bgI N σ2 a x n := fun f hf => by
  rw [e]; exact b f hf
theorem hs_ext {x : Nat} {a e : Int} (hx : x < 10) (ea : a = hFl N x) (ee : e = zb (mHold N x)) (j : Int) (hj : j < 212) : hsG N (x + 1) j = mBook (hsG N x) x a (-1) 0 e j := by
  rw [← hsG_s (v := mBook (hsG N x) x a (-1) 0 e 216 + e) hx rfl ea ee rfl, mSet_o (by omega)]
theorem ocF_8 {x : Nat} (hx : x < 6) : mF (ocF N x) (x : Int) 8 = mF N x 8 := by
  show ocF N x (94 + 10 * (x : Int) + 8) = _
  unfold ocF ocE ocC
  rw [if_neg (by omega), if_neg (by omega), if_neg (by omega), kwN_a (by omega)]
  rfl
theorem zt_X12_close {gg : Int → Int} (hE : eO N σ E) (hV : mV N) (hW : mW N) (hg : gOK N gg) (hX : mX N) (hQ : mQ N) (ha : amR N) (h60 : N 3 < 60) (hAO : zAO G) (hEn : ∀ i a, zn σ ≤ a → a < zbg → a ≠ E i) (hz : zn σ + 3 < zbg) : zE G mX12_close (d + 7) [zR (E 0)] σ (fun ro σ1 => ro = .inl (some (zI (clA N 0))) ∧ eO (clN N) σ1 E ∧ zGE E (zn σ) σ σ1 ∧ zn σ1 = zn σ + 3 ∧ zcs σ1 = zcs σ + 3 ∧ zss σ1 = zss σ + (5 + nS N + nF N)) := by
  refine zE_of rfl (by simp [zcat]) (Nat.le_of_ble_eq_true rfl) ?_
  show zF G mX12_close (d + 7) 0 [(0, zR (E 0))] [] σ _
  have hb := hV.b
  have hn := hV.n
  have hh := nS_eq hV
  have hhF := nF_eq hV
  have hhH := nH_eq hV
  have hl : eL N E (zn σ) := hE.lt
  have hbN := eB_of hV
  refine zF_iconst 1 dX12_close_0 rfl ?_
  refine zF_newarray 3 dX12_close_1 rfl (Or.inl ⟨rfl, rfl⟩) (zi1 152 rfl rfl) (by omega) (by omega) (by omega) (zwl_q (by exact (⟨zwR hE.l0, trivial⟩ : _ ∧ True))) (zwl_m (by exact trivial)) ?_
  show zF G mX12_close (d + 7) 3 [(0, zR (E 0))] [zR (zn σ)] (znw σ 1 5 5) _
  have hEn1 : eO N (znw σ 1 5 5) E := eO.gw hV hE (zGw_nw zGw.rf (Nat.le_refl _))
  refine zF_dup 4 dX12_close_3 rfl rfl ?_
  refine zF_iconst 5 dX12_close_4 rfl ?_
  refine zF_aload_n 6 dX12_close_5 rfl rfl ?_
  refine zF_iconst 7 dX12_close_6 rfl ?_
  refine zF_iconst 8 dX12_close_7 rfl ?_
  refine zF_callVi 11 (d2 := (d + 6)) (as := [zI (-1), zI (-1)]) dX12_close_8 rfl kX12_93 iX12_takings (ci := 12) rfl eX12_takings (Nat.le_refl _) hEn1.k0 hEn1.l0 rfl rfl (Nat.le_of_ble_eq_true rfl) ((show zP1 G mX12_takings _ _ (znw σ 1 5 5) (cAllN N (nS N)) from by rw [← gIn_all hV hg]; exact zt_X12_takings hEn1 hV hW hg (by omega) (by omega) (by decide) (by decide))) ?_
  refine zF_iastore 12 dX12_close_11 rfl (show zkd (znw σ 1 5 5) (zn σ) = (1, 5) from by show zkd (znw σ 1 5 5) (zn σ) = _; rw [zkd_nw, if_pos rfl]) (show (zn σ) < zn (znw σ 1 5 5) from by rw [show zn (znw σ 1 5 5) = zn σ + 1 from rfl]; omega) (by omega) (by omega) ?_
  refine zF_dup 13 dX12_close_12 rfl rfl ?_
  refine zF_iconst 14 dX12_close_13 rfl ?_
  refine zF_iconst 15 dX12_close_14 rfl ?_
  refine zF_iastore 16 dX12_close_15 rfl (show zkd (zsi (znw σ 1 5 5) (zn σ) 0 (cAllN N (nS N))) (zn σ) = (1, 5) from by show zkd (znw σ 1 5 5) (zn σ) = _; rw [zkd_nw, if_pos rfl]) (show (zn σ) < zn (zsi (znw σ 1 5 5) (zn σ) 0 (cAllN N (nS N))) from by rw [show zn (zsi (znw σ 1 5 5) (zn σ) 0 (cAllN N (nS N))) = zn σ + 1 from rfl]; omega) (by omega) (by omega) ?_
  refine zF_dup 17 dX12_close_16 rfl rfl ?_
  refine zF_iconst 18 dX12_close_17 rfl ?_
  have hEn2 : eO N (zsi (zsi (znw σ 1 5 5) (zn σ) 0 (cAllN N (nS N))) (zn σ) 1 0) E := eO.gw hV hE (zGw_si (zGw_si (zGw_nw zGw.rf (Nat.le_refl _)) (Nat.le_refl _)) (Nat.le_refl _))
  refine zF_aload_n 19 dX12_close_18 rfl rfl ?_
  refine zF_iconst 20 dX12_close_19 rfl ?_
  refine zF_callVi 23 (d2 := (d + 6)) (as := [zI (-1)]) dX12_close_20 rfl kX12_121 iX12_rents (ci := 12) rfl eX12_rents (Nat.le_refl _) hEn2.k0 hEn2.l0 rfl rfl (Nat.le_of_ble_eq_true rfl) ((zt_X12_rents hEn2 hV (by omega) (by decide))) ?_
  refine zF_iastore 24 dX12_close_23 rfl (show zkd (zsi (zsi (znw σ 1 5 5) (zn σ) 0 (cAllN N (nS N))) (zn σ) 1 0) (zn σ) = (1, 5) from by show zkd (znw σ 1 5 5) (zn σ) = _; rw [zkd_nw, if_pos rfl]) (show (zn σ) < zn (zsi (zsi (znw σ 1 5 5) (zn σ) 0 (cAllN N (nS N))) (zn σ) 1 0) from by rw [show zn (zsi (zsi (znw σ 1 5 5) (zn σ) 0 (cAllN N (nS N))) (zn σ) 1 0) = zn σ + 1 from rfl]; omega) (by omega) (by omega) ?_
  refine zF_dup 25 dX12_close_24 rfl rfl ?_
  refine zF_iconst 26 dX12_close_25 rfl ?_
  have hEn3 : eO N (zsi (zsi (zsi (znw σ 1 5 5) (zn σ) 0 (cAllN N (nS N))) (zn σ) 1 0) (zn σ) 2 (mRent N (-1))) E := eO.gw hV hE (zGw_si (zGw_si (zGw_si (zGw_nw zGw.rf (Nat.le_refl _)) (Nat.le_refl _)) (Nat.le_refl _)) (Nat.le_refl _))
  refine zF_aload_n 27 dX12_close_26 rfl rfl ?_
  refine zF_getI 30 dX12_close_27 rfl gX12_48 (by decide) (by decide) hEn3.k0 hEn3.l0 hEn3.i4 ?_
  refine zF_aload_n 31 dX12_close_30 rfl rfl ?_
  refine zF_getI 34 dX12_close_31 rfl gX12_51 (by decide) (by decide) hEn3.k0 hEn3.l0 hEn3.i5 ?_
  refine zF_imul 35 dX12_close_34 rfl ?_
  refine zF_iastore 36 dX12_close_35 rfl (show zkd (zsi (zsi (zsi (znw σ 1 5 5) (zn σ) 0 (cAllN N (nS N))) (zn σ) 1 0) (zn σ) 2 (mRent N (-1))) (zn σ) = (1, 5) from by show zkd (znw σ 1 5 5) (zn σ) = _; rw [zkd_nw, if_pos rfl]) (show (zn σ) < zn (zsi (zsi (zsi (znw σ 1 5 5) (zn σ) 0 (cAllN N (nS N))) (zn σ) 1 0) (zn σ) 2 (mRent N (-1))) from by rw [show zn (zsi (zsi (zsi (znw σ 1 5 5) (zn σ) 0 (cAllN N (nS N))) (zn σ) 1 0) (zn σ) 2 (mRent N (-1))) = zn σ + 1 from rfl]; omega) (by omega) (by omega) ?_
  refine zF_dup 37 dX12_close_36 rfl rfl ?_
  refine zF_iconst 38 dX12_close_37 rfl ?_
  refine zF_iconst 39 dX12_close_38 rfl ?_
  refine zF_iastore 40 dX12_close_39 rfl (show zkd (zsi (zsi (zsi (zsi (znw σ 1 5 5) (zn σ) 0 (cAllN N (nS N))) (zn σ) 1 0) (zn σ) 2 (mRent N (-1))) (zn σ) 3 ((N 4) * (N 5))) (zn σ) = (1, 5) from by show zkd (znw σ 1 5 5) (zn σ) = _; rw [zkd_nw, if_pos rfl]) (show (zn σ) < zn (zsi (zsi (zsi (zsi (znw σ 1 5 5) (zn σ) 0 (cAllN N (nS N))) (zn σ) 1 0) (zn σ) 2 (mRent N (-1))) (zn σ) 3 ((N 4) * (N 5))) from by rw [show zn (zsi (zsi (zsi (zsi (znw σ 1 5 5) (zn σ) 0 (cAllN N (nS N))) (zn σ) 1 0) (zn σ) 2 (mRent N (-1))) (zn σ) 3 ((N 4) * (N 5))) = zn σ + 1 from rfl]; omega) (by omega) (by omega) ?_
  refine zF_astore_n 41 (ls' := [(1, zR (zn σ)), (0, zR (E 0))]) dX12_close_40 rfl (by decide) rfl ?_
  have hEn5 : eO N (zsi (zsi (zsi (zsi (zsi (znw σ 1 5 5) (zn σ) 0 (cAllN N (nS N))) (zn σ) 1 0) (zn σ) 2 (mRent N (-1))) (zn σ) 3 ((N 4) * (N 5))) (zn σ) 4 0) E := eO.gw hV hE (zGw_si (zGw_si (zGw_si (zGw_si (zGw_si (zGw_nw zGw.rf (Nat.le_refl _)) (Nat.le_refl _)) (Nat.le_refl _)) (Nat.le_refl _)) (Nat.le_refl _)) (Nat.le_refl _))
  refine zF_iconst 42 dX12_close_41 rfl ?_
  refine zF_istore_n 43 (ls' := [(2, zI 0), (1, zR (zn σ)), (0, zR (E 0))]) dX12_close_42 rfl (by decide) rfl ?_
  refine zF_locs (ls' := [(2, zI ((0 : Nat) : Int)), (1, zR (zn σ)), (0, zR (E 0))]) ⟨zlI rfl (by first | rfl | omega | (push_cast; omega) | exact congrArg (_ + ·) (zbT (by assumption)) | exact congrArg (_ + ·) (zbF (by assumption)) | exact congrArg (_ + ·) (zbT (by omega)) | exact congrArg (_ + ·) (zbF (by omega)) | exact congrArg (_ + ·) (if_pos (by omega)).symm | exact congrArg (_ + ·) (if_neg (by omega)).symm | exact (if_pos (by omega)).symm | exact (if_neg (by omega)).symm | exact zsub_s (if_pos (by omega)).symm | exact zsub_s0 (if_neg (by omega)).symm | exact zadd0 (if_neg (by omega)).symm | exact zadd0 (zbF (by omega)) | exact (Int.sub_zero _).symm), rfl, rfl, trivial⟩ ?_
  refine zF_while (X := Nat) (fun x => nH N - x) (fun x σ2 => x ≤ nH N ∧ clS N N σ σ2 E 1 5 ∧ clW N σ2 (zn σ) (zsum (fun h => cShN N h (nF N)) x)) (fun x => [(2, zI ((x : Nat) : Int)), (1, zR (zn σ)), (0, zR (E 0))]) ?_ 0 (zsi (zsi (zsi (zsi (zsi (znw σ 1 5 5) (zn σ) 0 (cAllN N (nS N))) (zn σ) 1 0) (zn σ) 2 (mRent N (-1))) (zn σ) 3 ((N 4) * (N 5))) (zn σ) 4 0) (⟨by omega, ⟨hEn5, zGE.gw (zGw_si (zGw_si (zGw_si (zGw_si (zGw_si (zGw_nw zGw.rf (Nat.le_refl _)) (Nat.le_refl _)) (Nat.le_refl _)) (Nat.le_refl _)) (Nat.le_refl _)) (Nat.le_refl _)), ⟨rfl, rfl, rfl⟩, by show zkd (znw σ 1 5 5) (zn σ) = _; rw [zkd_nw, if_pos rfl]⟩, ⟨by rw [zia_si, if_neg (by omega), zia_si, if_neg (by omega), zia_si, if_neg (by omega), zia_si, if_neg (by omega), zia_si, if_pos ⟨rfl, rfl⟩]; rfl, by rw [zia_si, if_neg (by omega), zia_si, if_neg (by omega), zia_si, if_neg (by omega), zia_si, if_pos ⟨rfl, rfl⟩]; rfl, by rw [zia_si, if_neg (by omega), zia_si, if_neg (by omega), zia_si, if_pos ⟨rfl, rfl⟩]; unfold clA; rw [if_neg (by omega), if_neg (by omega), if_pos rfl], by rw [zia_si, if_neg (by omega), zia_si, if_pos ⟨rfl, rfl⟩]; unfold clA; rw [if_neg (by omega), if_neg (by omega), if_neg (by omega)]⟩⟩)
  intro x σ2 hI43 ih43
  show zF G mX12_close (d + 7) 43 [(2, zI ((x : Nat) : Int)), (1, zR (zn σ)), (0, zR (E 0))] [] σ2 _
  obtain ⟨hx, s2, w2⟩ := hI43
  have hE2 := s2.1
  refine zF_iload_n 44 dX12_close_43 rfl rfl ?_
  refine zF_aload_n 45 dX12_close_44 rfl rfl ?_
  refine zF_getI 48 dX12_close_45 rfl gX12_35 (by decide) (by decide) hE2.k0 hE2.l0 hE2.i0 ?_
  refine zF_icmp_ge 68 51 dX12_close_48 rfl rfl (by first | decide | assumption | exact hb _ | exact mSh_rg hb _ _ | exact zb_rg _ | (constructor <;> omega)) (by first | decide | assumption | exact hb _ | exact mSh_rg hb _ _ | exact zb_rg _ | (constructor <;> omega)) (fun c1 => ?_) (fun c1 => ?_)
  · refine zF_iconst 69 dX12_close_68 rfl ?_
    refine zF_istore_n 70 (ls' := [(2, zI 0), (1, zR (zn σ)), (0, zR (E 0))]) dX12_close_69 rfl (by decide) rfl ?_
    refine zF_locs (ls' := [(2, zI ((0 : Nat) : Int)), (1, zR (zn σ)), (0, zR (E 0))]) ⟨zlI rfl (by first | rfl | omega | (push_cast; omega) | exact congrArg (_ + ·) (zbT (by assumption)) | exact congrArg (_ + ·) (zbF (by assumption)) | exact congrArg (_ + ·) (zbT (by omega)) | exact congrArg (_ + ·) (zbF (by omega)) | exact congrArg (_ + ·) (if_pos (by omega)).symm | exact congrArg (_ + ·) (if_neg (by omega)).symm | exact (if_pos (by omega)).symm | exact (if_neg (by omega)).symm | exact zsub_s (if_pos (by omega)).symm | exact zsub_s0 (if_neg (by omega)).symm | exact zadd0 (if_neg (by omega)).symm | exact zadd0 (zbF (by omega)) | exact (Int.sub_zero _).symm), rfl, rfl, trivial⟩ ?_
    refine zF_while (X := Nat) (fun x => 4 - x) (fun x σ3 => x ≤ 4 ∧ clS N (kwN N (clA N) x) σ σ3 E 1 5 ∧ clW N σ3 (zn σ) (clA N 1)) (fun x => [(2, zI ((x : Nat) : Int)), (1, zR (zn σ)), (0, zR (E 0))]) ?_ 0 σ2 (by have ex : x = nH N := (by omega); subst ex; exact ⟨by omega, ⟨eO_ext hbN s2.1 (fun j hj => kw_e hj), s2.2⟩, ⟨w2.1, w2.2.1.trans (by unfold clA; rw [if_neg (by omega), if_pos rfl]), w2.2.2⟩⟩)
    intro x σ3 hI70 ih70
    show zF G mX12_close (d + 7) 70 [(2, zI ((x : Nat) : Int)), (1, zR (zn σ)), (0, zR (E 0))] [] σ3 _
    obtain ⟨hx, s3, w3⟩ := hI70
    have hE3 := s3.1
    have m3 := kwN_mid hV hQ ha hx
    refine zF_iload_n 71 dX12_close_70 rfl rfl ?_
    refine zF_iconst 72 dX12_close_71 rfl ?_
    refine zF_icmp_ge 93 75 dX12_close_72 rfl rfl (by first | decide | assumption | exact hb _ | exact mSh_rg hb _ _ | exact zb_rg _ | (constructor <;> omega)) (by first | decide | assumption | exact hb _ | exact mSh_rg hb _ _ | exact zb_rg _ | (constructor <;> omega)) (fun c2 => ?_) (fun c2 => ?_)
    · refine zF_iconst 94 dX12_close_93 rfl ?_
      refine zF_istore_n 95 (ls' := [(2, zI 0), (1, zR (zn σ)), (0, zR (E 0))]) dX12_close_94 rfl (by decide) rfl ?_
      refine zF_locs (ls' := [(2, zI ((0 : Nat) : Int)), (1, zR (zn σ)), (0, zR (E 0))]) ⟨zlI rfl (by first | rfl | omega | (push_cast; omega) | exact congrArg (_ + ·) (zbT (by assumption)) | exact congrArg (_ + ·) (zbF (by assumption)) | exact congrArg (_ + ·) (zbT (by omega)) | exact congrArg (_ + ·) (zbF (by omega)) | exact congrArg (_ + ·) (if_pos (by omega)).symm | exact congrArg (_ + ·) (if_neg (by omega)).symm | exact (if_pos (by omega)).symm | exact (if_neg (by omega)).symm | exact zsub_s (if_pos (by omega)).symm | exact zsub_s0 (if_neg (by omega)).symm | exact zadd0 (if_neg (by omega)).symm | exact zadd0 (zbF (by omega)) | exact (Int.sub_zero _).symm), rfl, rfl, trivial⟩ ?_
      refine zF_while (X := Nat) (fun x => nF N - x) (fun x σ4 => x ≤ nF N ∧ clS N (ocC N x) σ σ4 E 1 5 ∧ clW N σ4 (zn σ) (clA N 1)) (fun x => [(2, zI ((x : Nat) : Int)), (1, zR (zn σ)), (0, zR (E 0))]) ?_ 0 σ3 (by have ex : x = 4 := (by omega); subst ex; exact ⟨by omega, s3.to ocC_0.symm, w3⟩)
      intro x σ4 hI95 ih95
      show zF G mX12_close (d + 7) 95 [(2, zI ((x : Nat) : Int)), (1, zR (zn σ)), (0, zR (E 0))] [] σ4 _
      obtain ⟨hx, s4, w4⟩ := hI95
      have hE4 := s4.1
      have m4 := ocC_mid hV hW hQ ha x
      have e42 : (ocC N x) 2 = N 2 := m4.1 2 (by omega)
      have e41 : (ocC N x) 1 = N 1 := m4.1 1 (by omega)
      have ez4 := s4.2.2.1.1
      have e40 : (ocC N x) 0 = N 0 := m4.1 0 (by omega)
      refine zF_iload_n 96 dX12_close_95 rfl rfl ?_
      refine zF_aload_n 97 dX12_close_96 rfl rfl ?_
      refine zF_getI 100 dX12_close_97 rfl gX12_42 (by decide) (by decide) hE4.k0 hE4.l0 hE4.i2 ?_
      refine zF_icmp_ge 127 103 dX12_close_100 rfl rfl (by first | decide | assumption | exact hb _ | exact mSh_rg hb _ _ | exact zb_rg _ | (constructor <;> omega)) (by first | decide | assumption | exact hb _ | exact mSh_rg hb _ _ | exact zb_rg _ | (constructor <;> omega)) (fun c3 => ?_) (fun c3 => ?_)
      · have ex4 : x = nF N := by omega
        subst ex4
        refine zF_aload_n 128 dX12_close_127 rfl rfl ?_
        refine zF_getI 131 dX12_close_128 rfl gX12_39 (by decide) (by decide) hE4.k0 hE4.l0 hE4.i1 ?_
        rw [show ((ocC N (nF N)) 1) = ((nS N : Nat) : Int) by omega]
        refine zF_newarray 133 dX12_close_131 rfl (Or.inr (Or.inr (Or.inl ⟨rfl, rfl⟩))) (zi6 83 rfl rfl) (by omega) (by omega) (by omega) (zwl_q (by exact (⟨trivial, zwR (show (zn σ) < zn σ4 from by have := s4.2.2.1.1; omega), zwR (show E 0 < zn σ4 from by have := hl.1; have := s4.2.2.1.1; omega), trivial⟩ : _ ∧ _ ∧ _ ∧ True))) (zwl_m (by exact trivial)) ?_
        show zF G mX12_close (d + 7) 133 [(2, zI ((nF N : Nat) : Int)), (1, zR (zn σ)), (0, zR (E 0))] [zR (zn σ4)] (znw σ4 3 (nS N) (nS N)) _
        show zF G mX12_close (d + 7) 133 [(2, zI ((nF N : Nat) : Int)), (1, zR (zn σ)), (0, zR (E 0))] [zR (zn σ4)] (znw σ4 3 (nS N) (nS N)) _
        rw [ez4]
        show zF G mX12_close (d + 7) 133 [(2, zI ((nF N : Nat) : Int)), (1, zR (zn σ)), (0, zR (E 0))] [zR (zn σ + 1)] (znw σ4 3 (nS N) (nS N)) _
        refine zF_astore_n 134 (ls' := [(2, zR (zn σ + 1)), (1, zR (zn σ)), (0, zR (E 0))]) dX12_close_133 rfl (by decide) rfl ?_
        refine zF_iconst 135 dX12_close_134 rfl ?_
        refine zF_istore_n 136 (ls' := [(3, zI 0), (2, zR (zn σ + 1)), (1, zR (zn σ)), (0, zR (E 0))]) dX12_close_135 rfl (by decide) rfl ?_
        refine zF_locs (ls' := [(3, zI ((0 : Nat) : Int)), (2, zR (zn σ + 1)), (1, zR (zn σ)), (0, zR (E 0))]) ⟨zlI rfl (by first | rfl | omega | (push_cast; omega) | exact congrArg (_ + ·) (zbT (by assumption)) | exact congrArg (_ + ·) (zbF (by assumption)) | exact congrArg (_ + ·) (zbT (by omega)) | exact congrArg (_ + ·) (zbF (by omega)) | exact congrArg (_ + ·) (if_pos (by omega)).symm | exact congrArg (_ + ·) (if_neg (by omega)).symm | exact (if_pos (by omega)).symm | exact (if_neg (by omega)).symm | exact zsub_s (if_pos (by omega)).symm | exact zsub_s0 (if_neg (by omega)).symm | exact zadd0 (if_neg (by omega)).symm | exact zadd0 (zbF (by omega)) | exact (Int.sub_zero _).symm), rfl, rfl, rfl, trivial⟩ ?_
        refine zF_while (X := Nat) (fun x => nS N - x) (fun x σ5 => x ≤ nS N ∧ clS N (ocC N (nF N)) σ σ5 E 2 (5 + nS N) ∧ clW N σ5 (zn σ) (clA N 1) ∧ zkd σ5 (zn σ + 1) = (3, nS N) ∧ (∀ s : Nat, s < x → zia σ5 (zn σ + 1) s = zb (mHold N s))) (fun x => [(3, zI ((x : Nat) : Int)), (2, zR (zn σ + 1)), (1, zR (zn σ)), (0, zR (E 0))]) ?_ 0 (znw σ4 3 (nS N) (nS N)) (⟨by omega, s4.nw (eB_of (m4.V hV)) (by unfold eL; rw [e40, e41, e42]; exact hl) (Nat.le_refl _), ⟨by rw [zia_nw, if_neg (by omega)]; exact w4.1, by rw [zia_nw, if_neg (by omega)]; exact w4.2.1, by rw [zia_nw, if_neg (by omega)]; exact w4.2.2.1, by rw [zia_nw, if_neg (by omega)]; exact w4.2.2.2⟩, by rw [zkd_nw, if_pos (by omega)], fun s hs => absurd hs (by omega)⟩)
        intro x σ5 hI136 ih136
        show zF G mX12_close (d + 7) 136 [(3, zI ((x : Nat) : Int)), (2, zR (zn σ + 1)), (1, zR (zn σ)), (0, zR (E 0))] [] σ5 _
        obtain ⟨hx, s5, w5, kh5, v5⟩ := hI136
        have hE5 := s5.1
        have m5 := ocC_mid hV hW hQ ha (nF N)
        have e52 : (ocC N (nF N)) 2 = N 2 := m5.1 2 (by omega)
        have e51 : (ocC N (nF N)) 1 = N 1 := m5.1 1 (by omega)
        have e50 : (ocC N (nF N)) 0 = N 0 := m5.1 0 (by omega)
        have ez5 := s5.2.2.1.1
        refine zF_iload_n 137 dX12_close_136 rfl rfl ?_
        refine zF_aload_n 138 dX12_close_137 rfl rfl ?_
        refine zF_getI 141 dX12_close_138 rfl gX12_39 (by decide) (by decide) hE5.k0 hE5.l0 hE5.i1 ?_
        refine zF_icmp_ge 158 144 dX12_close_141 rfl rfl (by first | decide | assumption | exact hb _ | exact mSh_rg hb _ _ | exact zb_rg _ | (constructor <;> omega)) (by first | decide | assumption | exact hb _ | exact mSh_rg hb _ _ | exact zb_rg _ | (constructor <;> omega)) (fun c4 => ?_) (fun c4 => ?_)
        · refine zF_aload_n 159 dX12_close_158 rfl rfl ?_
          refine zF_getI 162 dX12_close_159 rfl gX12_42 (by decide) (by decide) hE5.k0 hE5.l0 hE5.i2 ?_
          rw [show ((ocC N (nF N)) 2) = ((nF N : Nat) : Int) by omega]
          refine zF_newarray 164 dX12_close_162 rfl (Or.inr (Or.inr (Or.inl ⟨rfl, rfl⟩))) (zi6 83 rfl rfl) (by omega) (by omega) (by omega) (zwl_q (by exact (⟨trivial, zwR (show (zn σ + 1) < zn σ5 from by have := s5.2.2.1.1; omega), zwR (show (zn σ) < zn σ5 from by have := s5.2.2.1.1; omega), zwR (show E 0 < zn σ5 from by have := hl.1; have := s5.2.2.1.1; omega), trivial⟩ : _ ∧ _ ∧ _ ∧ _ ∧ True))) (zwl_m (by exact trivial)) ?_
          show zF G mX12_close (d + 7) 164 [(3, zI ((x : Nat) : Int)), (2, zR (zn σ + 1)), (1, zR (zn σ)), (0, zR (E 0))] [zR (zn σ5)] (znw σ5 3 (nF N) (nF N)) _
          show zF G mX12_close (d + 7) 164 [(3, zI ((x : Nat) : Int)), (2, zR (zn σ + 1)), (1, zR (zn σ)), (0, zR (E 0))] [zR (zn σ5)] (znw σ5 3 (nF N) (nF N)) _
          rw [ez5]
          show zF G mX12_close (d + 7) 164 [(3, zI ((x : Nat) : Int)), (2, zR (zn σ + 1)), (1, zR (zn σ)), (0, zR (E 0))] [zR (zn σ + 2)] (znw σ5 3 (nF N) (nF N)) _
          refine zF_astore_n 165 (ls' := [(3, zR (zn σ + 2)), (2, zR (zn σ + 1)), (1, zR (zn σ)), (0, zR (E 0))]) dX12_close_164 rfl (by decide) rfl ?_
          refine zF_iconst 166 dX12_close_165 rfl ?_
          refine zF_istore 168 (ls' := [(4, zI 0), (3, zR (zn σ + 2)), (2, zR (zn σ + 1)), (1, zR (zn σ)), (0, zR (E 0))]) dX12_close_166 rfl (by decide) rfl ?_
          refine zF_locs (ls' := [(4, zI ((0 : Nat) : Int)), (3, zR (zn σ + 2)), (2, zR (zn σ + 1)), (1, zR (zn σ)), (0, zR (E 0))]) ⟨zlI rfl (by first | rfl | omega | (push_cast; omega) | exact congrArg (_ + ·) (zbT (by assumption)) | exact congrArg (_ + ·) (zbF (by assumption)) | exact congrArg (_ + ·) (zbT (by omega)) | exact congrArg (_ + ·) (zbF (by omega)) | exact congrArg (_ + ·) (if_pos (by omega)).symm | exact congrArg (_ + ·) (if_neg (by omega)).symm | exact (if_pos (by omega)).symm | exact (if_neg (by omega)).symm | exact zsub_s (if_pos (by omega)).symm | exact zsub_s0 (if_neg (by omega)).symm | exact zadd0 (if_neg (by omega)).symm | exact zadd0 (zbF (by omega)) | exact (Int.sub_zero _).symm), rfl, rfl, rfl, rfl, trivial⟩ ?_
          refine zF_while (X := Nat) (fun x => nF N - x) (fun x σ6 => x ≤ nF N ∧ clS N (ocE N x 0) σ σ6 E 3 (5 + nS N + nF N) ∧ clW N σ6 (zn σ) (clA N 1) ∧ zkd σ6 (zn σ + 1) = (3, nS N) ∧ (∀ s : Nat, s < nS N → zia σ6 (zn σ + 1) s = zb (mHold N s)) ∧ zkd σ6 (zn σ + 2) = (3, nF N) ∧ bgI N σ6 (zn σ + 2) x 0) (fun x => [(4, zI ((x : Nat) : Int)), (3, zR (zn σ + 2)), (2, zR (zn σ + 1)), (1, zR (zn σ)), (0, zR (E 0))]) ?_ 0 (znw σ5 3 (nF N) (nF N)) (by have ex : x = nS N := (by omega); subst ex; exact ⟨by omega, (s5.nw (eB_of (m5.V hV)) (by unfold eL; rw [e50, e51, e52]; exact hl) (by omega)).to ocE_0.symm, ⟨by rw [zia_nw, if_neg (by omega)]; exact w5.1, by rw [zia_nw, if_neg (by omega)]; exact w5.2.1, by rw [zia_nw, if_neg (by omega)]; exact w5.2.2.1, by rw [zia_nw, if_neg (by omega)]; exact w5.2.2.2⟩, by rw [zkd_nw, if_neg (by omega)]; exact kh5, fun s hs => by rw [zia_nw, if_neg (by omega)]; exact v5 s hs, by rw [zkd_nw, if_pos (by omega)], fun f hf => ⟨fun h => absurd h (by omega), fun h => Or.inr ⟨by rw [zia_nw, if_pos (by omega)], fun w => by obtain ⟨i, i1, -⟩ := w; omega⟩, fun h => by rw [zia_nw, if_pos (by omega)]⟩⟩)
          intro x σ6 hI168 ih168
          show zF G mX12_close (d + 7) 168 [(4, zI ((x : Nat) : Int)), (3, zR (zn σ + 2)), (2, zR (zn σ + 1)), (1, zR (zn σ)), (0, zR (E 0))] [] σ6 _
          obtain ⟨hx, s6, w6, kh6, v6, kg6, b6⟩ := hI168
          have hE6 := s6.1
          have m6 := ocE_mid hV hW hQ ha x 0
          have e62 : (ocE N x 0) 2 = N 2 := m6.1 2 (by omega)
          have e60 : (ocE N x 0) 0 = N 0 := m6.1 0 (by omega)
          refine zF_iload 170 dX12_close_168 rfl rfl ?_
          refine zF_aload_n 171 dX12_close_170 rfl rfl ?_
          refine zF_getI 174 dX12_close_171 rfl gX12_42 (by decide) (by decide) hE6.k0 hE6.l0 hE6.i2 ?_
          refine zF_icmp_ge 231 177 dX12_close_174 rfl rfl (by first | decide | assumption | exact hb _ | exact mSh_rg hb _ _ | exact zb_rg _ | (constructor <;> omega)) (by first | decide | assumption | exact hb _ | exact mSh_rg hb _ _ | exact zb_rg _ | (constructor <;> omega)) (fun c5 => ?_) (fun c5 => ?_)
          · refine zF_iconst 232 dX12_close_231 rfl ?_
            refine zF_istore 234 (ls' := [(4, zI 0), (3, zR (zn σ + 2)), (2, zR (zn σ + 1)), (1, zR (zn σ)), (0, zR (E 0))]) dX12_close_232 rfl (by decide) rfl ?_
            refine zF_locs (ls' := [(4, zI ((0 : Nat) : Int)), (3, zR (zn σ + 2)), (2, zR (zn σ + 1)), (1, zR (zn σ)), (0, zR (E 0))]) ⟨zlI rfl (by first | rfl | omega | (push_cast; omega) | exact congrArg (_ + ·) (zbT (by assumption)) | exact congrArg (_ + ·) (zbF (by assumption)) | exact congrArg (_ + ·) (zbT (by omega)) | exact congrArg (_ + ·) (zbF (by omega)) | exact congrArg (_ + ·) (if_pos (by omega)).symm | exact congrArg (_ + ·) (if_neg (by omega)).symm | exact (if_pos (by omega)).symm | exact (if_neg (by omega)).symm | exact zsub_s (if_pos (by omega)).symm | exact zsub_s0 (if_neg (by omega)).symm | exact zadd0 (if_neg (by omega)).symm | exact zadd0 (zbF (by omega)) | exact (Int.sub_zero _).symm), rfl, rfl, rfl, rfl, trivial⟩ ?_
            refine zF_while (X := Nat) (fun x => nF N - x) (fun x σ8 => x ≤ nF N ∧ clS N (ocF N x) σ σ8 E 3 (5 + nS N + nF N) ∧ clW N σ8 (zn σ) (clA N 1) ∧ zkd σ8 (zn σ + 1) = (3, nS N) ∧ (∀ s : Nat, s < nS N → zia σ8 (zn σ + 1) s = zb (mHold N s)) ∧ zkd σ8 (zn σ + 2) = (3, nF N) ∧ bgI N σ8 (zn σ + 2) (nF N) 0) (fun x => [(4, zI ((x : Nat) : Int)), (3, zR (zn σ + 2)), (2, zR (zn σ + 1)), (1, zR (zn σ)), (0, zR (E 0))]) ?_ 0 σ6 (by have ex : x = nF N := (by omega); subst ex; exact ⟨by omega, s6.to ocF_0.symm, w6, kh6, v6, kg6, b6⟩)
            intro x σ8 hI234 ih234
            show zF G mX12_close (d + 7) 234 [(4, zI ((x : Nat) : Int)), (3, zR (zn σ + 2)), (2, zR (zn σ + 1)), (1, zR (zn σ)), (0, zR (E 0))] [] σ8 _
            obtain ⟨hx, s8, w8, kh8, v8, kg8, b8⟩ := hI234
            have hE8 := s8.1
            have m8 := ocF_mid hV hW hQ ha x
            have e82 : (ocF N x) 2 = N 2 := m8.1 2 (by omega)
            have e81 : (ocF N x) 1 = N 1 := m8.1 1 (by omega)
            have e83 : (ocF N x) 3 = N 3 := m8.1 3 (by omega)
            refine zF_iload 236 dX12_close_234 rfl rfl ?_
            refine zF_aload_n 237 dX12_close_236 rfl rfl ?_
            refine zF_getI 240 dX12_close_237 rfl gX12_42 (by decide) (by decide) hE8.k0 hE8.l0 hE8.i2 ?_
            refine zF_icmp_ge 283 243 dX12_close_240 rfl rfl (by first | decide | assumption | exact hb _ | exact mSh_rg hb _ _ | exact zb_rg _ | (constructor <;> omega)) (by first | decide | assumption | exact hb _ | exact mSh_rg hb _ _ | exact zb_rg _ | (constructor <;> omega)) (fun c6 => ?_) (fun c6 => ?_)
            · refine zF_iconst 284 dX12_close_283 rfl ?_
              refine zF_istore 286 (ls' := [(4, zI 0), (3, zR (zn σ + 2)), (2, zR (zn σ + 1)), (1, zR (zn σ)), (0, zR (E 0))]) dX12_close_284 rfl (by decide) rfl ?_
              refine zF_locs (ls' := [(4, zI ((0 : Nat) : Int)), (3, zR (zn σ + 2)), (2, zR (zn σ + 1)), (1, zR (zn σ)), (0, zR (E 0))]) ⟨zlI rfl (by first | rfl | omega | (push_cast; omega) | exact congrArg (_ + ·) (zbT (by assumption)) | exact congrArg (_ + ·) (zbF (by assumption)) | exact congrArg (_ + ·) (zbT (by omega)) | exact congrArg (_ + ·) (zbF (by omega)) | exact congrArg (_ + ·) (if_pos (by omega)).symm | exact congrArg (_ + ·) (if_neg (by omega)).symm | exact (if_pos (by omega)).symm | exact (if_neg (by omega)).symm | exact zsub_s (if_pos (by omega)).symm | exact zsub_s0 (if_neg (by omega)).symm | exact zadd0 (if_neg (by omega)).symm | exact zadd0 (zbF (by omega)) | exact (Int.sub_zero _).symm), rfl, rfl, rfl, rfl, trivial⟩ ?_
              refine zF_while (X := Nat) (fun x => nS N - x) (fun x σ9 => x ≤ nS N ∧ clS N (hsG N x) σ σ9 E 3 (5 + nS N + nF N) ∧ clW N σ9 (zn σ) (clA N 1) ∧ zkd σ9 (zn σ + 1) = (3, nS N) ∧ (∀ s : Nat, s < nS N → zia σ9 (zn σ + 1) s = zb (mHold N s))) (fun x => [(4, zI ((x : Nat) : Int)), (3, zR (zn σ + 2)), (2, zR (zn σ + 1)), (1, zR (zn σ)), (0, zR (E 0))]) ?_ 0 σ8 (by have ex : x = nF N := (by omega); subst ex; exact ⟨by omega, s8.to (ocF_n.trans hsG_0.symm), w8, kh8, v8⟩)
              intro x σ9 hI286 ih286
              show zF G mX12_close (d + 7) 286 [(4, zI ((x : Nat) : Int)), (3, zR (zn σ + 2)), (2, zR (zn σ + 1)), (1, zR (zn σ)), (0, zR (E 0))] [] σ9 _
              obtain ⟨hx, s9, w9, kh9, v9⟩ := hI286
              have hE9 := s9.1
              have V9 := hsG_V hV hW hQ ha (y := x) (by omega)
              have e9 : ∀ j : Int, j < 14 → hsG N x j = N j := fun j hj => (hsG_o (Or.inl hj) (by omega)).trans (kfG_agr _ _ _ j (by omega))
              have e91 := e9 1 (by omega)
              have e92 := e9 2 (by omega)
              have e93 := e9 3 (by omega)
              have e90 := e9 0 (by omega)
              refine zF_iload 288 dX12_close_286 rfl rfl ?_
              refine zF_aload_n 289 dX12_close_288 rfl rfl ?_
              refine zF_getI 292 dX12_close_289 rfl gX12_39 (by decide) (by decide) hE9.k0 hE9.l0 hE9.i1 ?_
              refine zF_icmp_ge 362 295 dX12_close_292 rfl rfl (by first | decide | assumption | exact hb _ | exact mSh_rg hb _ _ | exact zb_rg _ | (constructor <;> omega)) (by first | decide | assumption | exact hb _ | exact mSh_rg hb _ _ | exact zb_rg _ | (constructor <;> omega)) (fun c7 => ?_) (fun c7 => ?_)
              · refine zF_aload_n 363 dX12_close_362 rfl rfl ?_
                refine zF_getR 366 dX12_close_363 rfl gX12_31 hE9.k0 hE9.l0 (hE9.f 12 6 60 (by decide)).1 ?_
                refine zF_aload_n 367 dX12_close_366 rfl rfl ?_
                refine zF_dup 368 dX12_close_367 rfl rfl ?_
                refine zF_getI 371 dX12_close_368 rfl gX12_45 (by decide) (by decide) hE9.k0 hE9.l0 hE9.i3 ?_
                refine zF_dup_x1 372 dX12_close_371 rfl rfl rfl ?_
                refine zF_iconst 373 dX12_close_372 rfl ?_
                refine zF_iadd 374 dX12_close_373 rfl ?_
                refine zF_putI 377 dX12_close_374 rfl pX12_close_45 (Or.inl rfl) hE9.k0 hE9.l0 ?_
                refine zF_aload_n 378 dX12_close_377 rfl rfl ?_
                refine zF_aastA 379 dX12_close_378 rfl (hE9.f 12 6 60 (by decide)).2.2 (hE9.f 12 6 60 (by decide)).2.1 (show zkd (zsi σ9 (E 0) ((3 : Nat) : Int) (((hsG N x) 3) + 1)) (zn σ) = (1, 5) from s9.2.2.2) (show (zn σ) < zn (zsi σ9 (E 0) ((3 : Nat) : Int) (((hsG N x) 3) + 1)) from by have := s9.2.2.1.1; show _ < zn σ9; omega) hAO (by omega) (by omega) ?_
                refine zF_aload_n 380 dX12_close_379 rfl rfl ?_
                refine zF_iconst 381 dX12_close_380 rfl ?_
                refine zF_putI 384 dX12_close_381 rfl pX12_close_51 (Or.inl rfl) hE9.k0 hE9.l0 ?_
                refine zF_aload_n 385 dX12_close_384 rfl rfl ?_
                refine zF_iconst 386 dX12_close_385 rfl ?_
                refine zF_iaload 387 dX12_close_386 rfl (show zkd (zsi (zsr (zsi σ9 (E 0) ((3 : Nat) : Int) (((hsG N x) 3) + 1)) (E 12) ((hsG N x) 3) (some (zn σ))) (E 0) ((5 : Nat) : Int) 0) (zn σ) = (1, 5) from s9.2.2.2) (show (zn σ) < zn (zsi (zsr (zsi σ9 (E 0) ((3 : Nat) : Int) (((hsG N x) 3) + 1)) (E 12) ((hsG N x) 3) (some (zn σ))) (E 0) ((5 : Nat) : Int) 0) from by have := s9.2.2.1.1; show _ < zn σ9; omega) (by omega) (by omega) (show zia (zsi (zsr (zsi σ9 (E 0) ((3 : Nat) : Int) (((hsG N x) 3) + 1)) (E 12) ((hsG N x) 3) (some (zn σ))) (E 0) ((5 : Nat) : Int) 0) (zn σ) 0 = clA N 0 from by rw [zia_si, if_neg (fun z => hEn 0 _ (Nat.le_refl _) (by omega) z.1)]; show zia (zsi σ9 (E 0) ((3 : Nat) : Int) _) (zn σ) 0 = _; rw [zia_si, if_neg (fun z => hEn 0 _ (Nat.le_refl _) (by omega) z.1)]; exact w9.1) ?_
                exact zF_ireturn dX12_close_387 rfl (by have ex : x = nS N := (by omega); subst ex; exact ⟨rfl, by rw [← clN_e (N := N) (v := hsG N (nS N) 3 + 1) rfl rfl rfl]; exact (eO_week (hE9.pi3 (eB_of V9))).pi5 (eB_set (eB_of V9) (by omega)), ((s9.2.1.si).sr).si, s9.2.2.1⟩)
              · refine zF_aload_n 296 dX12_close_295 rfl rfl ?_
                refine zF_iload 298 dX12_close_296 rfl rfl ?_
                refine zF_bipush 300 dX12_close_298 rfl (by decide) ?_
                refine zF_callVi 303 (d2 := (d + 6)) (as := [zI ((x : Nat) : Int), zI 6]) dX12_close_300 rfl kX12_62 iX12_shown (ci := 12) rfl eX12_shown (Nat.le_refl _) hE9.k0 hE9.l0 rfl rfl (Nat.le_of_ble_eq_true rfl) ((show zP1 G mX12_shown _ _ σ9 (mSh N (x : Int) 6) from by rw [← hsG_sh (y := x) (by omega) (by omega) (Int.le_refl _)]; exact zt_X12_shown hE9 V9 (by omega) (by omega) (by decide))) ?_
                refine zF_istore 305 (ls' := [(5, zI (mSh N (x : Int) 6)), (4, zI ((x : Nat) : Int)), (3, zR (zn σ + 2)), (2, zR (zn σ + 1)), (1, zR (zn σ)), (0, zR (E 0))]) dX12_close_303 rfl (by decide) rfl ?_
                refine zF_aload_n 306 dX12_close_305 rfl rfl ?_
                refine zF_iload 308 dX12_close_306 rfl rfl ?_
                refine zF_aload_n 309 dX12_close_308 rfl rfl ?_
                refine zF_iload 311 dX12_close_309 rfl rfl ?_
                refine zF_zaload 312 dX12_close_311 rfl kh9 (show (zn σ + 1) < zn σ9 from by have := s9.2.2.1.1; show _ < zn σ9; omega) (by omega) (by omega) (v9 x (by omega)) ?_
                refine zF_ifb_eq 320 315 dX12_close_312 rfl rfl (fun c8 => ?_) (fun c8 => ?_)
                · refine zF_iconst 321 dX12_close_320 rfl ?_
                  refine zF_iconst 322 dX12_close_321 rfl ?_
                  refine zF_iconst 323 dX12_close_322 rfl ?_
                  refine zF_aload_n 324 dX12_close_323 rfl rfl ?_
                  refine zF_iload 326 dX12_close_324 rfl rfl ?_
                  refine zF_zaload 327 dX12_close_326 rfl kh9 (show (zn σ + 1) < zn σ9 from by have := s9.2.2.1.1; show _ < zn σ9; omega) (by omega) (by omega) (v9 x (by omega)) ?_
                  refine zF_ifb_eq 334 330 dX12_close_327 rfl rfl (fun c9 => ?_) (fun c9 => ?_)
                  · refine zF_iconst 335 dX12_close_334 rfl ?_
                    refine zF_callV 338 (d2 := (d + 6)) (as := [zI ((x : Nat) : Int), zI (-1), zI (-1), zI 0, zI 0]) dX12_close_335 rfl kX12_131 iX12_book (ci := 12) rfl eX12_book (Nat.le_refl _) hE9.k0 hE9.l0 rfl rfl (Nat.le_of_ble_eq_true rfl) (zE.mono ((zt_X12_book hE9 V9 (a := (-1)) (b := (-1)) (c := 0) (e := 0) (by omega : 0 ≤ (x : Int)) (by omega))) fun ro σa1 hh1 => ?_)
                    obtain ⟨er1, fr1, p1⟩ := hh1
                    subst er1
                    refine ⟨fr1.1, ?_⟩
                    show zF G mX12_close (d + 7) 338 [(5, zI (mSh N (x : Int) 6)), (4, zI ((x : Nat) : Int)), (3, zR (zn σ + 2)), (2, zR (zn σ + 1)), (1, zR (zn σ)), (0, zR (E 0))] [] σa1 _
                    have s9b : clS N (hsG N (x + 1)) σ σa1 E 3 (5 + nS N + nF N) := ⟨eO_ext (eB_book (eB_of V9) (by omega) (by omega)) p1 (fun j hj => hs_ext (by omega) ((if_neg (by assumption)).symm) (zbF (by assumption)) j hj), s9.2.1.tr (zGE.fr fr1), ⟨by rw [fr1.1]; exact s9.2.2.1.1, by rw [fr1.2.2.2.1]; exact s9.2.2.1.2.1, by rw [fr1.2.2.2.2.1]; exact s9.2.2.1.2.2⟩, by rw [fr1.2.1]; exact s9.2.2.2⟩
                    have ek : ∀ a : Nat, zn σ ≤ a → a < zbg → ∀ j, zia σa1 a j = zia σ9 a j := fun a ha hz2 j => fr1.2.2.2.2.2 a j (fun z => by obtain ⟨i, e⟩ := z; exact hEn i a ha hz2 e)
                    have kh9b : zkd σa1 (zn σ + 1) = (3, nS N) := by rw [fr1.2.1]; exact kh9
                    have v9b : zia σa1 (zn σ + 1) (x : Int) = zb (mHold N (x : Int)) := (ek _ (by omega) (by omega) _).trans (v9 x (by omega))
                    have w9b : clW N σa1 (zn σ) (clA N 1) := ⟨(ek _ (Nat.le_refl _) (by omega) _).trans w9.1, (ek _ (Nat.le_refl _) (by omega) _).trans w9.2.1, (ek _ (Nat.le_refl _) (by omega) _).trans w9.2.2.1, (ek _ (Nat.le_refl _) (by omega) _).trans w9.2.2.2⟩
                    refine zF_aload_n 339 dX12_close_338 rfl rfl ?_
                    refine zF_iconst 340 dX12_close_339 rfl ?_
                    refine zF_dup2 341 dX12_close_340 rfl rfl rfl ?_
                    refine zF_iaload 342 dX12_close_341 rfl (show zkd σa1 (zn σ) = (1, 5) from s9b.2.2.2) (show (zn σ) < zn σa1 from by have := s9b.2.2.1.1; show _ < zn σa1; omega) (by omega) (by omega) rfl ?_
                    refine zF_aload_n 343 dX12_close_342 rfl rfl ?_
                    refine zF_iload 345 dX12_close_343 rfl rfl ?_
                    refine zF_zaload 346 dX12_close_345 rfl kh9b (show (zn σ + 1) < zn σa1 from by have := s9b.2.2.1.1; show _ < zn σa1; omega) (by omega) (by omega) v9b ?_
                    refine zF_ifb_eq 353 349 dX12_close_346 rfl rfl (fun c10 => ?_) (fun c10 => ?_)
                    · refine zF_iconst 354 dX12_close_353 rfl ?_
                      refine zF_iadd 355 dX12_close_354 rfl ?_
                      refine zF_iastore 356 dX12_close_355 rfl (show zkd σa1 (zn σ) = (1, 5) from s9b.2.2.2) (show (zn σ) < zn σa1 from by have := s9b.2.2.1.1; show _ < zn σa1; omega) (by omega) (by omega) ?_
                      refine zF_iinc 359 (ls' := [(4, zI (((x : Nat) : Int) + 1)), (5, zI (mSh N (x : Int) 6)), (3, zR (zn σ + 2)), (2, zR (zn σ + 1)), (1, zR (zn σ)), (0, zR (E 0))]) dX12_close_356 rfl rfl rfl (by decide) rfl ?_
                      refine zF_goto 286 dX12_close_359 rfl ?_
                      exact zF_locs (ls' := [(4, zI (((x + 1) : Nat) : Int)), (3, zR (zn σ + 2)), (2, zR (zn σ + 1)), (1, zR (zn σ)), (0, zR (E 0))]) ⟨zlI rfl (by first | rfl | omega | (push_cast; omega) | exact congrArg (_ + ·) (zbT (by assumption)) | exact congrArg (_ + ·) (zbF (by assumption)) | exact congrArg (_ + ·) (zbT (by omega)) | exact congrArg (_ + ·) (zbF (by omega)) | exact congrArg (_ + ·) (if_pos (by omega)).symm | exact congrArg (_ + ·) (if_neg (by omega)).symm | exact (if_pos (by omega)).symm | exact (if_neg (by omega)).symm | exact zsub_s (if_pos (by omega)).symm | exact zsub_s0 (if_neg (by omega)).symm | exact zadd0 (if_neg (by omega)).symm | exact zadd0 (zbF (by omega)) | exact (Int.sub_zero _).symm), rfl, rfl, rfl, rfl, trivial⟩ (ih286 (x + 1) _ (by omega) (⟨by omega, s9b.n (eB_of (hsG_V hV hW hQ ha (y := x + 1) (by omega))) (by unfold eL; rw [(hsG_o (Or.inl (by omega)) (by omega) : hsG N (x + 1) 0 = _), (hsG_o (Or.inl (by omega)) (by omega) : hsG N (x + 1) 1 = _), (hsG_o (Or.inl (by omega)) (by omega) : hsG N (x + 1) 2 = _), kfG_agr _ _ _ 0 (by omega), kfG_agr _ _ _ 1 (by omega), kfG_agr _ _ _ 2 (by omega)]; exact hl) (Nat.le_refl _), ⟨by rw [zia_si, if_neg (by omega)]; exact w9b.1, by rw [zia_si, if_neg (by omega)]; exact w9b.2.1, by rw [zia_si, if_neg (by omega)]; exact w9b.2.2.1, by rw [zia_si, if_neg (by omega)]; exact w9b.2.2.2⟩, kh9b, fun s hs => by rw [zia_si, if_neg (by omega)]; exact (ek _ (by omega) (by omega) _).trans (v9 s hs)⟩))
                    · exact absurd c10 (by first | assumption | omega)
                  · exact absurd c9 (by first | assumption | omega)
                · refine zF_iload 317 dX12_close_315 rfl rfl ?_
                  refine zF_goto 321 dX12_close_317 rfl ?_
                  refine zF_iconst 322 dX12_close_321 rfl ?_
                  refine zF_iconst 323 dX12_close_322 rfl ?_
                  refine zF_aload_n 324 dX12_close_323 rfl rfl ?_
                  refine zF_iload 326 dX12_close_324 rfl rfl ?_
                  refine zF_zaload 327 dX12_close_326 rfl kh9 (show (zn σ + 1) < zn σ9 from by have := s9.2.2.1.1; show _ < zn σ9; omega) (by omega) (by omega) (v9 x (by omega)) ?_
                  refine zF_ifb_eq 334 330 dX12_close_327 rfl rfl (fun c11 => ?_) (fun c11 => ?_)
                  · exact absurd c11 (by first | assumption | omega)
                  · refine zF_iconst 331 dX12_close_330 rfl ?_
                    refine zF_goto 335 dX12_close_331 rfl ?_
                    refine zF_callV 338 (d2 := (d + 6)) (as := [zI ((x : Nat) : Int), zI (mSh N (x : Int) 6), zI (-1), zI 0, zI 1]) dX12_close_335 rfl kX12_131 iX12_book (ci := 12) rfl eX12_book (Nat.le_refl _) hE9.k0 hE9.l0 rfl rfl (Nat.le_of_ble_eq_true rfl) (zE.mono ((zt_X12_book hE9 V9 (a := (mSh N (x : Int) 6)) (b := (-1)) (c := 0) (e := 1) (by omega : 0 ≤ (x : Int)) (by omega))) fun ro σa2 hh2 => ?_)
                    obtain ⟨er2, fr2, p2⟩ := hh2
                    subst er2
                    refine ⟨fr2.1, ?_⟩
                    show zF G mX12_close (d + 7) 338 [(5, zI (mSh N (x : Int) 6)), (4, zI ((x : Nat) : Int)), (3, zR (zn σ + 2)), (2, zR (zn σ + 1)), (1, zR (zn σ)), (0, zR (E 0))] [] σa2 _
                    have s9b : clS N (hsG N (x + 1)) σ σa2 E 3 (5 + nS N + nF N) := ⟨eO_ext (eB_book (eB_of V9) (by omega) (by omega)) p2 (fun j hj => hs_ext (by omega) ((if_pos (by assumption)).symm) (zbT (by assumption)) j hj), s9.2.1.tr (zGE.fr fr2), ⟨by rw [fr2.1]; exact s9.2.2.1.1, by rw [fr2.2.2.2.1]; exact s9.2.2.1.2.1, by rw [fr2.2.2.2.2.1]; exact s9.2.2.1.2.2⟩, by rw [fr2.2.1]; exact s9.2.2.2⟩
                    have ek : ∀ a : Nat, zn σ ≤ a → a < zbg → ∀ j, zia σa2 a j = zia σ9 a j := fun a ha hz2 j => fr2.2.2.2.2.2 a j (fun z => by obtain ⟨i, e⟩ := z; exact hEn i a ha hz2 e)
                    have kh9b : zkd σa2 (zn σ + 1) = (3, nS N) := by rw [fr2.2.1]; exact kh9
                    have v9b : zia σa2 (zn σ + 1) (x : Int) = zb (mHold N (x : Int)) := (ek _ (by omega) (by omega) _).trans (v9 x (by omega))
                    have w9b : clW N σa2 (zn σ) (clA N 1) := ⟨(ek _ (Nat.le_refl _) (by omega) _).trans w9.1, (ek _ (Nat.le_refl _) (by omega) _).trans w9.2.1, (ek _ (Nat.le_refl _) (by omega) _).trans w9.2.2.1, (ek _ (Nat.le_refl _) (by omega) _).trans w9.2.2.2⟩
                    refine zF_aload_n 339 dX12_close_338 rfl rfl ?_
                    refine zF_iconst 340 dX12_close_339 rfl ?_
                    refine zF_dup2 341 dX12_close_340 rfl rfl rfl ?_
                    refine zF_iaload 342 dX12_close_341 rfl (show zkd σa2 (zn σ) = (1, 5) from s9b.2.2.2) (show (zn σ) < zn σa2 from by have := s9b.2.2.1.1; show _ < zn σa2; omega) (by omega) (by omega) rfl ?_
                    refine zF_aload_n 343 dX12_close_342 rfl rfl ?_
                    refine zF_iload 345 dX12_close_343 rfl rfl ?_
                    refine zF_zaload 346 dX12_close_345 rfl kh9b (show (zn σ + 1) < zn σa2 from by have := s9b.2.2.1.1; show _ < zn σa2; omega) (by omega) (by omega) v9b ?_
                    refine zF_ifb_eq 353 349 dX12_close_346 rfl rfl (fun c12 => ?_) (fun c12 => ?_)
                    · exact absurd c12 (by first | assumption | omega)
                    · refine zF_iconst 350 dX12_close_349 rfl ?_
                      refine zF_goto 354 dX12_close_350 rfl ?_
                      refine zF_iadd 355 dX12_close_354 rfl ?_
                      refine zF_iastore 356 dX12_close_355 rfl (show zkd σa2 (zn σ) = (1, 5) from s9b.2.2.2) (show (zn σ) < zn σa2 from by have := s9b.2.2.1.1; show _ < zn σa2; omega) (by omega) (by omega) ?_
                      refine zF_iinc 359 (ls' := [(4, zI (((x : Nat) : Int) + 1)), (5, zI (mSh N (x : Int) 6)), (3, zR (zn σ + 2)), (2, zR (zn σ + 1)), (1, zR (zn σ)), (0, zR (E 0))]) dX12_close_356 rfl rfl rfl (by decide) rfl ?_
                      refine zF_goto 286 dX12_close_359 rfl ?_
                      exact zF_locs (ls' := [(4, zI (((x + 1) : Nat) : Int)), (3, zR (zn σ + 2)), (2, zR (zn σ + 1)), (1, zR (zn σ)), (0, zR (E 0))]) ⟨zlI rfl (by first | rfl | omega | (push_cast; omega) | exact congrArg (_ + ·) (zbT (by assumption)) | exact congrArg (_ + ·) (zbF (by assumption)) | exact congrArg (_ + ·) (zbT (by omega)) | exact congrArg (_ + ·) (zbF (by omega)) | exact congrArg (_ + ·) (if_pos (by omega)).symm | exact congrArg (_ + ·) (if_neg (by omega)).symm | exact (if_pos (by omega)).symm | exact (if_neg (by omega)).symm | exact zsub_s (if_pos (by omega)).symm | exact zsub_s0 (if_neg (by omega)).symm | exact zadd0 (if_neg (by omega)).symm | exact zadd0 (zbF (by omega)) | exact (Int.sub_zero _).symm), rfl, rfl, rfl, rfl, trivial⟩ (ih286 (x + 1) _ (by omega) (⟨by omega, s9b.n (eB_of (hsG_V hV hW hQ ha (y := x + 1) (by omega))) (by unfold eL; rw [(hsG_o (Or.inl (by omega)) (by omega) : hsG N (x + 1) 0 = _), (hsG_o (Or.inl (by omega)) (by omega) : hsG N (x + 1) 1 = _), (hsG_o (Or.inl (by omega)) (by omega) : hsG N (x + 1) 2 = _), kfG_agr _ _ _ 0 (by omega), kfG_agr _ _ _ 1 (by omega), kfG_agr _ _ _ 2 (by omega)]; exact hl) (Nat.le_refl _), ⟨by rw [zia_si, if_neg (by omega)]; exact w9b.1, by rw [zia_si, if_neg (by omega)]; exact w9b.2.1, by rw [zia_si, if_neg (by omega)]; exact w9b.2.2.1, by rw [zia_si, if_neg (by omega)]; exact w9b.2.2.2⟩, kh9b, fun s hs => by rw [zia_si, if_neg (by omega)]; exact (ek _ (by omega) (by omega) _).trans (v9 s hs)⟩))
            · refine zF_aload_n 244 dX12_close_243 rfl rfl ?_
              refine zF_iload 246 dX12_close_244 rfl rfl ?_
              refine zF_zaload 247 dX12_close_246 rfl kg8 (show (zn σ + 2) < zn σ8 from by have := s8.2.2.1.1; show _ < zn σ8; omega) (by omega) (by omega) rfl ?_
              have b8x := (b8 x (by omega)).1 (by omega)
              have b8r : 0 ≤ zia σ8 (zn σ + 2) (x : Int) ∧ zia σ8 (zn σ + 2) (x : Int) ≤ 1 := by rcases b8x with z | z <;> omega
              refine zF_if_eq 277 250 dX12_close_247 rfl rfl (by first | decide | assumption | exact hb _ | exact mSh_rg hb _ _ | exact zb_rg _ | (constructor <;> omega)) (fun c13 => ?_) (fun c13 => ?_)
              · have f8x := hV.f (x : Int) (by omega) (by omega)
                have hcb : mF N (x : Int) 8 ≠ -1 ∨ ¬ obg N (x : Int) (nH N) := Decidable.byCases (p := mF N (x : Int) 8 = -1) (fun q => Or.inr (b8x.elim (fun z => absurd z.1 (by omega)) (fun z => z.2))) (fun q => Or.inl q)
                refine zF_iinc 280 (ls' := [(4, zI (((x : Nat) : Int) + 1)), (3, zR (zn σ + 2)), (2, zR (zn σ + 1)), (1, zR (zn σ)), (0, zR (E 0))]) dX12_close_277 rfl rfl rfl (by decide) rfl ?_
                refine zF_goto 234 dX12_close_280 rfl ?_
                exact zF_locs (ls' := [(4, zI (((x + 1) : Nat) : Int)), (3, zR (zn σ + 2)), (2, zR (zn σ + 1)), (1, zR (zn σ)), (0, zR (E 0))]) ⟨zlI rfl (by first | rfl | omega | (push_cast; omega) | exact congrArg (_ + ·) (zbT (by assumption)) | exact congrArg (_ + ·) (zbF (by assumption)) | exact congrArg (_ + ·) (zbT (by omega)) | exact congrArg (_ + ·) (zbF (by omega)) | exact congrArg (_ + ·) (if_pos (by omega)).symm | exact congrArg (_ + ·) (if_neg (by omega)).symm | exact (if_pos (by omega)).symm | exact (if_neg (by omega)).symm | exact zsub_s (if_pos (by omega)).symm | exact zsub_s0 (if_neg (by omega)).symm | exact zadd0 (if_neg (by omega)).symm | exact zadd0 (zbF (by omega)) | exact (Int.sub_zero _).symm), rfl, rfl, rfl, rfl, trivial⟩ (ih234 (x + 1) _ (by omega) (⟨by omega, s8.to (ocF_no (by omega) (clB_no _ hcb).symm), w8, kh8, v8, kg8, b8⟩))
              · refine zF_aload_n 251 dX12_close_250 rfl rfl ?_
                refine zF_getR 254 dX12_close_251 rfl gX12_18 hE8.k0 hE8.l0 (hE8.f 8 6 6 (by decide)).1 ?_
                refine zF_iload 256 dX12_close_254 rfl rfl ?_
                refine zF_aaldA 257 dX12_close_256 rfl (hE8.f 8 6 6 (by decide)).2.2 (hE8.f 8 6 6 (by decide)).2.1 (by omega) (by omega) (hE8.r8 _ (by omega) (by omega)).1 ?_
                refine zF_bipush 259 dX12_close_257 rfl (by decide) ?_
                refine zF_iaload 260 dX12_close_259 rfl (hE8.r8 _ (by omega) (by omega)).2.2 (hE8.r8 _ (by omega) (by omega)).2.1 (by omega) (by omega) ((hE8.c8q _ _ (by omega) (by omega) (Or.inr (Or.inl rfl))).trans (ocF_8 (by omega))) ?_
                refine zF_if_ge 277 263 dX12_close_260 rfl rfl (by first | decide | assumption | exact hb _ | exact mSh_rg hb _ _ | exact zb_rg _ | (constructor <;> omega)) (fun c14 => ?_) (fun c14 => ?_)
                · have f8x := hV.f (x : Int) (by omega) (by omega)
                  have hcb : mF N (x : Int) 8 ≠ -1 ∨ ¬ obg N (x : Int) (nH N) := Decidable.byCases (p := mF N (x : Int) 8 = -1) (fun q => Or.inr (b8x.elim (fun z => absurd z.1 (by omega)) (fun z => z.2))) (fun q => Or.inl q)
                  refine zF_iinc 280 (ls' := [(4, zI (((x : Nat) : Int) + 1)), (3, zR (zn σ + 2)), (2, zR (zn σ + 1)), (1, zR (zn σ)), (0, zR (E 0))]) dX12_close_277 rfl rfl rfl (by decide) rfl ?_
                  refine zF_goto 234 dX12_close_280 rfl ?_
                  exact zF_locs (ls' := [(4, zI (((x + 1) : Nat) : Int)), (3, zR (zn σ + 2)), (2, zR (zn σ + 1)), (1, zR (zn σ)), (0, zR (E 0))]) ⟨zlI rfl (by first | rfl | omega | (push_cast; omega) | exact congrArg (_ + ·) (zbT (by assumption)) | exact congrArg (_ + ·) (zbF (by assumption)) | exact congrArg (_ + ·) (zbT (by omega)) | exact congrArg (_ + ·) (zbF (by omega)) | exact congrArg (_ + ·) (if_pos (by omega)).symm | exact congrArg (_ + ·) (if_neg (by omega)).symm | exact (if_pos (by omega)).symm | exact (if_neg (by omega)).symm | exact zsub_s (if_pos (by omega)).symm | exact zsub_s0 (if_neg (by omega)).symm | exact zadd0 (if_neg (by omega)).symm | exact zadd0 (zbF (by omega)) | exact (Int.sub_zero _).symm), rfl, rfl, rfl, rfl, trivial⟩ (ih234 (x + 1) _ (by omega) (⟨by omega, s8.to (ocF_no (by omega) (clB_no _ hcb).symm), w8, kh8, v8, kg8, b8⟩))
                · refine zF_aload_n 264 dX12_close_263 rfl rfl ?_
                  refine zF_getR 267 dX12_close_264 rfl gX12_18 hE8.k0 hE8.l0 (hE8.f 8 6 6 (by decide)).1 ?_
                  refine zF_iload 269 dX12_close_267 rfl rfl ?_
                  refine zF_aaldA 270 dX12_close_269 rfl (hE8.f 8 6 6 (by decide)).2.2 (hE8.f 8 6 6 (by decide)).2.1 (by omega) (by omega) (hE8.r8 _ (by omega) (by omega)).1 ?_
                  refine zF_bipush 272 dX12_close_270 rfl (by decide) ?_
                  refine zF_aload_n 273 dX12_close_272 rfl rfl ?_
                  refine zF_getI 276 dX12_close_273 rfl gX12_45 (by decide) (by decide) hE8.k0 hE8.l0 hE8.i3 ?_
                  refine zF_iastore 277 dX12_close_276 rfl (hE8.r8 _ (by omega) (by omega)).2.2 (hE8.r8 _ (by omega) (by omega)).2.1 (by omega) (by omega) ?_
                  have f8x := hV.f (x : Int) (by omega) (by omega)
                  have hc8 : mF N (x : Int) 8 = -1 := by omega
                  have hcb : obg N (x : Int) (nH N) := b8x.elim (fun z => z.2) (fun z => absurd z.1 (by omega))
                  refine zF_iinc 280 (ls' := [(4, zI (((x : Nat) : Int) + 1)), (3, zR (zn σ + 2)), (2, zR (zn σ + 1)), (1, zR (zn σ)), (0, zR (E 0))]) dX12_close_277 rfl rfl rfl (by decide) rfl ?_
                  refine zF_goto 234 dX12_close_280 rfl ?_
                  exact zF_locs (ls' := [(4, zI (((x + 1) : Nat) : Int)), (3, zR (zn σ + 2)), (2, zR (zn σ + 1)), (1, zR (zn σ)), (0, zR (E 0))]) ⟨zlI rfl (by first | rfl | omega | (push_cast; omega) | exact congrArg (_ + ·) (zbT (by assumption)) | exact congrArg (_ + ·) (zbF (by assumption)) | exact congrArg (_ + ·) (zbT (by omega)) | exact congrArg (_ + ·) (zbF (by omega)) | exact congrArg (_ + ·) (if_pos (by omega)).symm | exact congrArg (_ + ·) (if_neg (by omega)).symm | exact (if_pos (by omega)).symm | exact (if_neg (by omega)).symm | exact zsub_s (if_pos (by omega)).symm | exact zsub_s0 (if_neg (by omega)).symm | exact zadd0 (if_neg (by omega)).symm | exact zadd0 (zbF (by omega)) | exact (Int.sub_zero _).symm), rfl, rfl, rfl, rfl, trivial⟩ (ih234 (x + 1) _ (by omega) (⟨by omega, s8.e (by rw [← ocF_s (c := x) (i := 94 + 10 * (x : Int) + 8) (v := ocF N x 3) (by omega) rfl (by rw [e83]; exact (clB_yes _ hc8 hcb (by omega)).symm)]; exact hE8.p8 (eB_of (m8.V hV)) (x9 := (x : Int)) (y9 := 8) (by omega) (by omega) (by omega) (by omega)), w8.e (Or.inl (hl.2.2.2.2.1 x (by omega) (by omega))), kh8, fun s hs => by rw [zia_si, if_neg (fun z => hEn _ _ (by omega) (by omega) z.1)]; exact v8 s hs, kg8, bgI_fr b8 (fun j => by rw [zia_si, if_neg (fun z => hEn _ _ (by omega) (by omega) z.1)])⟩))
          · refine zF_iconst 178 dX12_close_177 rfl ?_
            refine zF_istore 180 (ls' := [(5, zI 0), (4, zI ((x : Nat) : Int)), (3, zR (zn σ + 2)), (2, zR (zn σ + 1)), (1, zR (zn σ)), (0, zR (E 0))]) dX12_close_178 rfl (by decide) rfl ?_
            refine zF_locs (ls' := [(5, zI ((0 : Nat) : Int)), (4, zI ((x : Nat) : Int)), (3, zR (zn σ + 2)), (2, zR (zn σ + 1)), (1, zR (zn σ)), (0, zR (E 0))]) ⟨zlI rfl (by first | rfl | omega | (push_cast; omega) | exact congrArg (_ + ·) (zbT (by assumption)) | exact congrArg (_ + ·) (zbF (by assumption)) | exact congrArg (_ + ·) (zbT (by omega)) | exact congrArg (_ + ·) (zbF (by omega)) | exact congrArg (_ + ·) (if_pos (by omega)).symm | exact congrArg (_ + ·) (if_neg (by omega)).symm | exact (if_pos (by omega)).symm | exact (if_neg (by omega)).symm | exact zsub_s (if_pos (by omega)).symm | exact zsub_s0 (if_neg (by omega)).symm | exact zadd0 (if_neg (by omega)).symm | exact zadd0 (zbF (by omega)) | exact (Int.sub_zero _).symm), rfl, rfl, rfl, rfl, rfl, trivial⟩ ?_
            refine zF_while (X := Nat) (fun z => nH N - z) (fun z σ7 => z ≤ nH N ∧ clS N (ocE N x z) σ σ7 E 3 (5 + nS N + nF N) ∧ clW N σ7 (zn σ) (clA N 1) ∧ zkd σ7 (zn σ + 1) = (3, nS N) ∧ (∀ s : Nat, s < nS N → zia σ7 (zn σ + 1) s = zb (mHold N s)) ∧ zkd σ7 (zn σ + 2) = (3, nF N) ∧ bgI N σ7 (zn σ + 2) x z) (fun z => [(5, zI ((z : Nat) : Int)), (4, zI ((x : Nat) : Int)), (3, zR (zn σ + 2)), (2, zR (zn σ + 1)), (1, zR (zn σ)), (0, zR (E 0))]) ?_ 0 σ6 (⟨by omega, s6, w6, kh6, v6, kg6, b6⟩)
            intro y σ7 hI180 ih180
            show zF G mX12_close (d + 7) 180 [(5, zI ((y : Nat) : Int)), (4, zI ((x : Nat) : Int)), (3, zR (zn σ + 2)), (2, zR (zn σ + 1)), (1, zR (zn σ)), (0, zR (E 0))] [] σ7 _
            obtain ⟨hy, s7, w7, kh7, v7, kg7, b7⟩ := hI180
            have hE7 := s7.1
            have m7 := ocE_mid hV hW hQ ha x y
            have e72 : (ocE N x y) 2 = N 2 := m7.1 2 (by omega)
            have e71 : (ocE N x y) 1 = N 1 := m7.1 1 (by omega)
            have e70 : (ocE N x y) 0 = N 0 := m7.1 0 (by omega)
            refine zF_iload 182 dX12_close_180 rfl rfl ?_
            refine zF_aload_n 183 dX12_close_182 rfl rfl ?_
            refine zF_getI 186 dX12_close_183 rfl gX12_35 (by decide) (by decide) hE7.k0 hE7.l0 hE7.i0 ?_
            refine zF_icmp_ge 225 189 dX12_close_186 rfl rfl (by first | decide | assumption | exact hb _ | exact mSh_rg hb _ _ | exact zb_rg _ | (constructor <;> omega)) (by first | decide | assumption | exact hb _ | exact mSh_rg hb _ _ | exact zb_rg _ | (constructor <;> omega)) (fun c15 => ?_) (fun c15 => ?_)
            · refine zF_iinc 228 (ls' := [(4, zI (((x : Nat) : Int) + 1)), (5, zI ((y : Nat) : Int)), (3, zR (zn σ + 2)), (2, zR (zn σ + 1)), (1, zR (zn σ)), (0, zR (E 0))]) dX12_close_225 rfl rfl rfl (by decide) rfl ?_
              refine zF_goto 168 dX12_close_228 rfl ?_
              exact zF_locs (ls' := [(4, zI (((x + 1) : Nat) : Int)), (3, zR (zn σ + 2)), (2, zR (zn σ + 1)), (1, zR (zn σ)), (0, zR (E 0))]) ⟨zlI rfl (by first | rfl | omega | (push_cast; omega) | exact congrArg (_ + ·) (zbT (by assumption)) | exact congrArg (_ + ·) (zbF (by assumption)) | exact congrArg (_ + ·) (zbT (by omega)) | exact congrArg (_ + ·) (zbF (by omega)) | exact congrArg (_ + ·) (if_pos (by omega)).symm | exact congrArg (_ + ·) (if_neg (by omega)).symm | exact (if_pos (by omega)).symm | exact (if_neg (by omega)).symm | exact zsub_s (if_pos (by omega)).symm | exact zsub_s0 (if_neg (by omega)).symm | exact zadd0 (if_neg (by omega)).symm | exact zadd0 (zbF (by omega)) | exact (Int.sub_zero _).symm), rfl, rfl, rfl, rfl, trivial⟩ (ih168 (x + 1) _ (by omega) (by have ey : y = nH N := (by omega); subst ey; exact ⟨by omega, s7.to ocE_n, w7, kh7, v7, kg7, bgI_nx b7⟩))
            · refine zF_aload_n 190 dX12_close_189 rfl rfl ?_
              refine zF_iload 192 dX12_close_190 rfl rfl ?_
              refine zF_iload 194 dX12_close_192 rfl rfl ?_
              refine zF_callVi 197 (d2 := (d + 6)) (as := [zI ((y : Nat) : Int), zI ((x : Nat) : Int)]) dX12_close_194 rfl kX12_89 iX12_isIn (ci := 12) rfl eX12_isIn (Nat.le_refl _) hE7.k0 hE7.l0 rfl rfl (Nat.le_of_ble_eq_true rfl) ((show zP1 G mX12_isIn _ _ σ7 (zb (0 < mNeed N (y : Int) (x : Int))) from by rw [← m7.1.need hV]; exact zt_X12_isIn hE7 (m7.V hV) (m7.W hV hW) (m7.g hV hg) (by constructor <;> omega) (by constructor <;> omega))) ?_
              refine zF_ifb_eq 219 200 dX12_close_197 rfl rfl (fun c16 => ?_) (fun c16 => ?_)
              · refine zF_iinc 222 (ls' := [(5, zI (((y : Nat) : Int) + 1)), (4, zI ((x : Nat) : Int)), (3, zR (zn σ + 2)), (2, zR (zn σ + 1)), (1, zR (zn σ)), (0, zR (E 0))]) dX12_close_219 rfl rfl rfl (by decide) rfl ?_
                refine zF_goto 180 dX12_close_222 rfl ?_
                exact zF_locs (ls' := [(5, zI (((y + 1) : Nat) : Int)), (4, zI ((x : Nat) : Int)), (3, zR (zn σ + 2)), (2, zR (zn σ + 1)), (1, zR (zn σ)), (0, zR (E 0))]) ⟨zlI rfl (by first | rfl | omega | (push_cast; omega) | exact congrArg (_ + ·) (zbT (by assumption)) | exact congrArg (_ + ·) (zbF (by assumption)) | exact congrArg (_ + ·) (zbT (by omega)) | exact congrArg (_ + ·) (zbF (by omega)) | exact congrArg (_ + ·) (if_pos (by omega)).symm | exact congrArg (_ + ·) (if_neg (by omega)).symm | exact (if_pos (by omega)).symm | exact (if_neg (by omega)).symm | exact zsub_s (if_pos (by omega)).symm | exact zsub_s0 (if_neg (by omega)).symm | exact zadd0 (if_neg (by omega)).symm | exact zadd0 (zbF (by omega)) | exact (Int.sub_zero _).symm), rfl, rfl, rfl, rfl, rfl, trivial⟩ (ih180 (y + 1) _ (by omega) (⟨by omega, s7.to (ocE_no (by assumption)), w7, kh7, v7, kg7, bgI_no b7 (by assumption)⟩))
              · refine zF_aload_n 201 dX12_close_200 rfl rfl ?_
                refine zF_getR 204 dX12_close_201 rfl gX12_25 hE7.k0 hE7.l0 (hE7.f 10 6 4 (by decide)).1 ?_
                refine zF_iload 206 dX12_close_204 rfl rfl ?_
                refine zF_aaldA 207 dX12_close_206 rfl (hE7.f 10 6 4 (by decide)).2.2 (hE7.f 10 6 4 (by decide)).2.1 (by omega) (by omega) (hE7.r10 _ (by omega) (by omega)).1 ?_
                refine zF_iload 209 dX12_close_207 rfl rfl ?_
                refine zF_dup2 210 dX12_close_209 rfl rfl rfl ?_
                refine zF_iaload 211 dX12_close_210 rfl (hE7.r10 _ (by omega) (by omega)).2.2 (hE7.r10 _ (by omega) (by omega)).2.1 (by omega) (by omega) (hE7.c10 _ _ (by omega) (by omega) (by omega) (by omega)) ?_
                refine zF_iconst 212 dX12_close_211 rfl ?_
                refine zF_iadd 213 dX12_close_212 rfl ?_
                refine zF_iastore 214 dX12_close_213 rfl (hE7.r10 _ (by omega) (by omega)).2.2 (hE7.r10 _ (by omega) (by omega)).2.1 (by omega) (by omega) ?_
                refine zF_aload_n 215 dX12_close_214 rfl rfl ?_
                refine zF_iload 217 dX12_close_215 rfl rfl ?_
                refine zF_iconst 218 dX12_close_217 rfl ?_
                refine zF_zastore 219 dX12_close_218 rfl kg7 (show (zn σ + 2) < zn (zsi σ7 (E (1000 + ((y : Nat) : Int).toNat)) ((x : Nat) : Int) ((mR (ocE N x y) (y : Int) (x : Int)) + 1)) from by have := s7.2.2.1.1; show _ < zn σ7; omega) (by omega) (by omega) (by decide) ?_
                refine zF_iinc 222 (ls' := [(5, zI (((y : Nat) : Int) + 1)), (4, zI ((x : Nat) : Int)), (3, zR (zn σ + 2)), (2, zR (zn σ + 1)), (1, zR (zn σ)), (0, zR (E 0))]) dX12_close_219 rfl rfl rfl (by decide) rfl ?_
                refine zF_goto 180 dX12_close_222 rfl ?_
                exact zF_locs (ls' := [(5, zI (((y + 1) : Nat) : Int)), (4, zI ((x : Nat) : Int)), (3, zR (zn σ + 2)), (2, zR (zn σ + 1)), (1, zR (zn σ)), (0, zR (E 0))]) ⟨zlI rfl (by first | rfl | omega | (push_cast; omega) | exact congrArg (_ + ·) (zbT (by assumption)) | exact congrArg (_ + ·) (zbF (by assumption)) | exact congrArg (_ + ·) (zbT (by omega)) | exact congrArg (_ + ·) (zbF (by omega)) | exact congrArg (_ + ·) (if_pos (by omega)).symm | exact congrArg (_ + ·) (if_neg (by omega)).symm | exact (if_pos (by omega)).symm | exact (if_neg (by omega)).symm | exact zsub_s (if_pos (by omega)).symm | exact zsub_s0 (if_neg (by omega)).symm | exact zadd0 (if_neg (by omega)).symm | exact zadd0 (zbF (by omega)) | exact (Int.sub_zero _).symm), rfl, rfl, rfl, rfl, rfl, trivial⟩ (ih180 (y + 1) _ (by omega) (⟨by omega, (s7.e (by rw [← ocE_yes (x := x) (n := y) (i := 184 + 6 * (y : Int) + (x : Int)) (v := mR (ocE N x y) (y : Int) (x : Int) + 1) (by omega) (by omega) (by omega) (by assumption) rfl rfl]; exact hE7.p10 (eB_of (m7.V hV)) (x9 := (y : Int)) (y9 := (x : Int)) (by omega) (by omega) (by omega) (by omega))).n (eB_of ((ocE_mid hV hW hQ ha x (y + 1)).V hV)) (by unfold eL; rw [(ocE_mid hV hW hQ ha x (y + 1)).1 0 (by omega), (ocE_mid hV hW hQ ha x (y + 1)).1 1 (by omega), (ocE_mid hV hW hQ ha x (y + 1)).1 2 (by omega)]; exact hl) (by omega), ⟨by rw [zia_si, if_neg (by omega)]; exact (w7.e (Or.inl (hl.2.2.2.2.2.2 y (by omega) (by omega)))).1, by rw [zia_si, if_neg (by omega)]; exact (w7.e (Or.inl (hl.2.2.2.2.2.2 y (by omega) (by omega)))).2.1, by rw [zia_si, if_neg (by omega)]; exact (w7.e (Or.inl (hl.2.2.2.2.2.2 y (by omega) (by omega)))).2.2.1, by rw [zia_si, if_neg (by omega)]; exact (w7.e (Or.inl (hl.2.2.2.2.2.2 y (by omega) (by omega)))).2.2.2⟩, kh7, fun s hs => by rw [zia_si, if_neg (by omega), zia_si, if_neg (fun z => hEn _ _ (by omega) (by omega) z.1)]; exact v7 s hs, kg7, bgI_yes b7 (by assumption) (zsi_same _ _ _ _) (fun f hf => by rw [zia_si, if_neg (fun z => hf (by have := z.2; omega)), zia_si, if_neg (fun z => hEn _ _ (by omega) (by omega) z.1)])⟩))
        · refine zF_aload_n 145 dX12_close_144 rfl rfl ?_
          refine zF_iload_n 146 dX12_close_145 rfl rfl ?_
          refine zF_aload_n 147 dX12_close_146 rfl rfl ?_
          refine zF_iload_n 148 dX12_close_147 rfl rfl ?_
          refine zF_callVi 151 (d2 := (d + 6)) (as := [zI ((x : Nat) : Int)]) dX12_close_148 rfl kX12_127 iX12_holds (ci := 12) rfl eX12_holds (Nat.le_refl _) hE5.k0 hE5.l0 rfl rfl (Nat.le_of_ble_eq_true rfl) ((show zP1 G mX12_holds _ _ σ5 (zb (mHold N (x : Int))) from by rw [← zb_if ((m5.1.hold hV (by omega) (by omega)).trans (mHold_eq hV hX hQ hg (by omega) (by omega)))]; exact zt_X12_holds hE5 (m5.V hV) (m5.W hV hW) (m5.g hV hg) (by omega) (by omega))) ?_
          refine zF_zastore 152 dX12_close_151 rfl kh5 (show (zn σ + 1) < zn σ5 from by have := s5.2.2.1.1; show _ < zn σ5; omega) (by omega) (by omega) (zb01 _) ?_
          refine zF_iinc 155 (ls' := [(3, zI (((x : Nat) : Int) + 1)), (2, zR (zn σ + 1)), (1, zR (zn σ)), (0, zR (E 0))]) dX12_close_152 rfl rfl rfl (by decide) rfl ?_
          refine zF_goto 136 dX12_close_155 rfl ?_
          exact zF_locs (ls' := [(3, zI (((x + 1) : Nat) : Int)), (2, zR (zn σ + 1)), (1, zR (zn σ)), (0, zR (E 0))]) ⟨zlI rfl (by first | rfl | omega | (push_cast; omega) | exact congrArg (_ + ·) (zbT (by assumption)) | exact congrArg (_ + ·) (zbF (by assumption)) | exact congrArg (_ + ·) (zbT (by omega)) | exact congrArg (_ + ·) (zbF (by omega)) | exact congrArg (_ + ·) (if_pos (by omega)).symm | exact congrArg (_ + ·) (if_neg (by omega)).symm | exact (if_pos (by omega)).symm | exact (if_neg (by omega)).symm | exact zsub_s (if_pos (by omega)).symm | exact zsub_s0 (if_neg (by omega)).symm | exact zadd0 (if_neg (by omega)).symm | exact zadd0 (zbF (by omega)) | exact (Int.sub_zero _).symm), rfl, rfl, rfl, trivial⟩ (ih136 (x + 1) _ (by omega) (⟨by omega, s5.n (eB_of (m5.V hV)) (by unfold eL; rw [e50, e51, e52]; exact hl) (by omega), ⟨by rw [zia_si, if_neg (by omega)]; exact w5.1, by rw [zia_si, if_neg (by omega)]; exact w5.2.1, by rw [zia_si, if_neg (by omega)]; exact w5.2.2.1, by rw [zia_si, if_neg (by omega)]; exact w5.2.2.2⟩, kh5, fun s hs => by
          rw [zia_si]
          by_cases c : s = x
          · subst c; rw [if_pos ⟨rfl, rfl⟩]
          · rw [if_neg (by omega)]; exact v5 s (by omega)⟩))
      · refine zF_aload_n 104 dX12_close_103 rfl rfl ?_
        refine zF_getR 107 dX12_close_104 rfl gX12_18 hE4.k0 hE4.l0 (hE4.f 8 6 6 (by decide)).1 ?_
        refine zF_iload_n 108 dX12_close_107 rfl rfl ?_
        refine zF_aaldA 109 dX12_close_108 rfl (hE4.f 8 6 6 (by decide)).2.2 (hE4.f 8 6 6 (by decide)).2.1 (by omega) (by omega) (hE4.r8 _ (by omega) (by omega)).1 ?_
        refine zF_bipush 111 dX12_close_109 rfl (by decide) ?_
        refine zF_dup2 112 dX12_close_111 rfl rfl rfl ?_
        refine zF_iaload 113 dX12_close_112 rfl (hE4.r8 _ (by omega) (by omega)).2.2 (hE4.r8 _ (by omega) (by omega)).2.1 (by omega) (by omega) (hE4.c8q _ _ (by omega) (by omega) (Or.inr (Or.inr rfl))) ?_
        refine zF_aload_n 114 dX12_close_113 rfl rfl ?_
        refine zF_iconst 115 dX12_close_114 rfl ?_
        refine zF_iload_n 116 dX12_close_115 rfl rfl ?_
        refine zF_callVi 119 (d2 := (d + 6)) (as := [zI (-1), zI ((x : Nat) : Int)]) dX12_close_116 rfl kX12_93 iX12_takings (ci := 12) rfl eX12_takings (Nat.le_refl _) hE4.k0 hE4.l0 rfl rfl (Nat.le_of_ble_eq_true rfl) ((show zP1 G mX12_takings _ _ σ4 (cFt N (x : Int)) from by rw [← gIn_films hV hW hg (by omega), ← m4.1.gin hV]; exact zt_X12_takings hE4 (m4.V hV) (m4.W hV hW) (m4.g hV hg) (by omega) (by omega) (by constructor <;> omega) (by constructor <;> omega))) ?_
        refine zF_iadd 120 dX12_close_119 rfl ?_
        refine zF_iastore 121 dX12_close_120 rfl (hE4.r8 _ (by omega) (by omega)).2.2 (hE4.r8 _ (by omega) (by omega)).2.1 (by omega) (by omega) ?_
        refine zF_iinc 124 (ls' := [(2, zI (((x : Nat) : Int) + 1)), (1, zR (zn σ)), (0, zR (E 0))]) dX12_close_121 rfl rfl rfl (by decide) rfl ?_
        refine zF_goto 95 dX12_close_124 rfl ?_
        exact zF_locs (ls' := [(2, zI (((x + 1) : Nat) : Int)), (1, zR (zn σ)), (0, zR (E 0))]) ⟨zlI rfl (by first | rfl | omega | (push_cast; omega) | exact congrArg (_ + ·) (zbT (by assumption)) | exact congrArg (_ + ·) (zbF (by assumption)) | exact congrArg (_ + ·) (zbT (by omega)) | exact congrArg (_ + ·) (zbF (by omega)) | exact congrArg (_ + ·) (if_pos (by omega)).symm | exact congrArg (_ + ·) (if_neg (by omega)).symm | exact (if_pos (by omega)).symm | exact (if_neg (by omega)).symm | exact zsub_s (if_pos (by omega)).symm | exact zsub_s0 (if_neg (by omega)).symm | exact zadd0 (if_neg (by omega)).symm | exact zadd0 (zbF (by omega)) | exact (Int.sub_zero _).symm), rfl, rfl, trivial⟩ (ih95 (x + 1) _ (by omega) (⟨by omega, s4.e (by rw [← ocC_s (b := x) (v := mF (ocC N x) (x : Int) 9 + cFt N x) (by omega) rfl rfl]; exact hE4.p8 (eB_of (m4.V hV)) (x9 := (x : Int)) (y9 := 9) (by omega) (by omega) (by omega) (by omega)), w4.e (Or.inl (hl.2.2.2.2.1 x (by omega) (by omega)))⟩))
    · refine zF_aload_n 76 dX12_close_75 rfl rfl ?_
      refine zF_getR 79 dX12_close_76 rfl gX12_28 hE3.k0 hE3.l0 (hE3.f 11 1 4 (by decide)).1 ?_
      refine zF_iload_n 80 dX12_close_79 rfl rfl ?_
      refine zF_dup2 81 dX12_close_80 rfl rfl rfl ?_
      refine zF_iaload 82 dX12_close_81 rfl (hE3.f 11 1 4 (by decide)).2.2 (hE3.f 11 1 4 (by decide)).2.1 (by omega) (by omega) (hE3.c11 _ (by omega) (by omega)) ?_
      refine zF_aload_n 83 dX12_close_82 rfl rfl ?_
      refine zF_iload_n 84 dX12_close_83 rfl rfl ?_
      refine zF_iaload 85 dX12_close_84 rfl (show zkd σ3 (zn σ) = (1, 5) from s3.2.2.2) (show (zn σ) < zn σ3 from by have := s3.2.2.1.1; show _ < zn σ3; omega) (by omega) (by omega) (clW_at w3 (by omega)) ?_
      refine zF_iadd 86 dX12_close_85 rfl ?_
      refine zF_iastore 87 dX12_close_86 rfl (hE3.f 11 1 4 (by decide)).2.2 (hE3.f 11 1 4 (by decide)).2.1 (by omega) (by omega) ?_
      refine zF_iinc 90 (ls' := [(2, zI (((x : Nat) : Int) + 1)), (1, zR (zn σ)), (0, zR (E 0))]) dX12_close_87 rfl rfl rfl (by decide) rfl ?_
      refine zF_goto 70 dX12_close_90 rfl ?_
      exact zF_locs (ls' := [(2, zI (((x + 1) : Nat) : Int)), (1, zR (zn σ)), (0, zR (E 0))]) ⟨zlI rfl (by first | rfl | omega | (push_cast; omega) | exact congrArg (_ + ·) (zbT (by assumption)) | exact congrArg (_ + ·) (zbF (by assumption)) | exact congrArg (_ + ·) (zbT (by omega)) | exact congrArg (_ + ·) (zbF (by omega)) | exact congrArg (_ + ·) (if_pos (by omega)).symm | exact congrArg (_ + ·) (if_neg (by omega)).symm | exact (if_pos (by omega)).symm | exact (if_neg (by omega)).symm | exact zsub_s (if_pos (by omega)).symm | exact zsub_s0 (if_neg (by omega)).symm | exact zadd0 (if_neg (by omega)).symm | exact zadd0 (zbF (by omega)) | exact (Int.sub_zero _).symm), rfl, rfl, trivial⟩ (ih70 (x + 1) _ (by omega) (⟨by omega, s3.e (by rw [← kw_st (by omega)]; exact hE3.p11 (eB_of (m3.V hV)) (by omega) (by omega)), w3.e (Or.inl (hl.2.1 11 1 4 (by decide)))⟩))
  · refine zF_aload_n 52 dX12_close_51 rfl rfl ?_
    refine zF_iconst 53 dX12_close_52 rfl ?_
    refine zF_dup2 54 dX12_close_53 rfl rfl rfl ?_
    refine zF_iaload 55 dX12_close_54 rfl (show zkd σ2 (zn σ) = (1, 5) from s2.2.2.2) (show (zn σ) < zn σ2 from by have := s2.2.2.1.1; show _ < zn σ2; omega) (by omega) (by omega) w2.2.1 ?_
    refine zF_aload_n 56 dX12_close_55 rfl rfl ?_
    refine zF_iload_n 57 dX12_close_56 rfl rfl ?_
    refine zF_callVi 60 (d2 := (d + 6)) (as := [zI ((x : Nat) : Int)]) dX12_close_57 rfl kX12_124 iX12_shares (ci := 12) rfl eX12_shares (Nat.le_refl _) hE2.k0 hE2.l0 rfl rfl (Nat.le_of_ble_eq_true rfl) ((show zP1 G mX12_shares _ _ σ2 (cShN N (x : Int) (nF N)) from by rw [← gShares_eq hV hg (by omega)]; exact zt_X12_shares hE2 hV hW hg (by omega) (by omega))) ?_
    refine zF_iadd 61 dX12_close_60 rfl ?_
    refine zF_iastore 62 dX12_close_61 rfl (show zkd σ2 (zn σ) = (1, 5) from s2.2.2.2) (show (zn σ) < zn σ2 from by have := s2.2.2.1.1; show _ < zn σ2; omega) (by omega) (by omega) ?_
    refine zF_iinc 65 (ls' := [(2, zI (((x : Nat) : Int) + 1)), (1, zR (zn σ)), (0, zR (E 0))]) dX12_close_62 rfl rfl rfl (by decide) rfl ?_
    refine zF_goto 43 dX12_close_65 rfl ?_
    exact zF_locs (ls' := [(2, zI (((x + 1) : Nat) : Int)), (1, zR (zn σ)), (0, zR (E 0))]) ⟨zlI rfl (by first | rfl | omega | (push_cast; omega) | exact congrArg (_ + ·) (zbT (by assumption)) | exact congrArg (_ + ·) (zbF (by assumption)) | exact congrArg (_ + ·) (zbT (by omega)) | exact congrArg (_ + ·) (zbF (by omega)) | exact congrArg (_ + ·) (if_pos (by omega)).symm | exact congrArg (_ + ·) (if_neg (by omega)).symm | exact (if_pos (by omega)).symm | exact (if_neg (by omega)).symm | exact zsub_s (if_pos (by omega)).symm | exact zsub_s0 (if_neg (by omega)).symm | exact zadd0 (if_neg (by omega)).symm | exact zadd0 (zbF (by omega)) | exact (Int.sub_zero _).symm), rfl, rfl, trivial⟩ (ih43 (x + 1) _ (by omega) (⟨by omega, s2.n hbN hl (Nat.le_refl _), ⟨by rw [zia_si, if_neg (by omega)]; exact w2.1, by rw [zia_si, if_pos ⟨rfl, rfl⟩]; rfl, by rw [zia_si, if_neg (by omega)]; exact w2.2.2.1, by rw [zia_si, if_neg (by omega)]; exact w2.2.2.2⟩⟩))
end ZE7

/-! a query's answer, and the reference's query -/
section ZQA
variable {G : zG} {d : Nat} {σ σ0 σ1 : zMem} {hm : Nat} {A : Nat → Nat} {N gg : Int → Int} {t : Int → Int} {L : Nat} {s : tS} {l : List Int}
/-- what a property says, on the numbers alone -/
def qPn (N : Int → Int) (s i : Int) : Int := if i = 0 then s else if i = 1 then mS N s 0 else if i = 2 then mS N s 1 else if i = 3 then mCap N s else if i = 4 then mS N s 3 else if i = 5 then qBk N s else if i = 6 then mS N s 7 else if i = 7 then cTake N s else vSn N s 0 7
theorem qPm_eq {x : Int} (hg : gOK N gg) (h0 : 0 ≤ x) (h1 : x < 10) : qPm N gg x = qPn N x := by
  funext i
  unfold qPm qPn qBk
  rw [gTake_eq hg h0 h1, gG_eq hg h0 h1]
theorem cTake_rg {x : Int} (hV : mV N) (h0 : 0 ≤ x) (h1 : x < 10) : zrg (cTake N x) := by
  have a := vSn_b hV h0 h1 0 7
  have b := hV.s x h0 h1
  have c := hV.h (mS N x 0) b.1 b.2.1
  have e : mPrice N x = mH N (mS N x 0) 0 := rfl
  have m1 : 0 ≤ vSn N x 0 7 * mPrice N x := Int.mul_nonneg a.1 (by omega)
  have m2 : vSn N x 0 7 * mPrice N x ≤ 21000 * 99 := Int.mul_le_mul (by omega) (by omega) (by omega) (by decide)
  have e2 : cTake N x = vSn N x 0 7 * mPrice N x := rfl
  constructor <;> omega
theorem qPn_r {x : Int} (hV : mV N) (h0 : 0 ≤ x) (h1 : x < 10) : qPr (qPn N x) := by
  intro i i0 i1
  have a := vSn_b hV h0 h1 0 7
  have b := hV.s x h0 h1
  have c := mCap_b hV h0 h1
  have e := cTake_rg hV h0 h1
  unfold qPn qBk
  repeat' split
  all_goals first | exact e | (constructor <;> omega)
def qH (N : Int → Int) (l : List Int) (x : Int) : Int := (qEv (qPn N x) l []).getD 0 0
theorem qH_w {x : Int} (h : ∀ pv, ∃ v, qW pv l v) : qW (qPn N x) l (qH N l x) := by
  obtain ⟨v, hv⟩ := h (qPn N x)
  have e : qH N l x = v := by unfold qH; rw [hv.2.1]; rfl
  rw [e]; exact hv
/-- behind the first word -/
def qA0 (t : Int → Int) (L : Nat) : tS := if tWd t L (zsbi 25) (0, 0) ∨ tWd t L (zsbi 26) (0, 0) then tAdv t L (0, 0) else tFail 1 (0, 0)
def qY (t : Int → Int) (L : Nat) : qS := qTest t L (qFac t L 6) (qA0 t L)
def qE (t : Int → Int) (L : Nat) : tS := if tKd t L (qY t L).2 = 0 then (qY t L).2 else tFail 1 (qY t L).2
def qFst (f : Int → Int) : Nat → Nat → Int
  | 0, _ => -1
  | n + 1, i => if f (i : Int) = 1 then (i : Int) else qFst f n (i + 1)
def qAns (N : Int → Int) (t : Int → Int) (L : Nat) : Int := if (qE t L).2 ≠ 0 then -1000000000 - (qE t L).2 else if tWd t L (zsbi 26) (0, 0) then qFst (qH N (qY t L).1) (nS N) 0 else zsum (fun x => zb (qH N (qY t L).1 x = 1)) (nS N)
theorem qA0_p : (qA0 t L).1 ≤ L := by
  unfold qA0
  split
  · exact (tAdv_1 (s := (0, 0)) (Nat.zero_le _)).2
  · rw [tFail_1]; exact Nat.zero_le _
theorem qY_p : (qY t L).2.1 ≤ L := ((qI_test (qI_fac 6)) _ qA0_p).1.2
theorem qY_w (h : (qY t L).2.2 = 0) : (qY t L).1.length ≤ L ∧ ∀ pv, ∃ v, qW pv (qY t L).1 v := by
  have a := (qI_test (t := t) (L := L) (qI_fac 6)) (qA0 t L) qA0_p
  have b := a.2 h
  have c : (qA0 t L).1 + (qY t L).1.length ≤ (qY t L).2.1 := b.2.1
  have e := qY_p (t := t) (L := L)
  exact ⟨by omega, b.2.2.2⟩
theorem qE_1 : (qE t L).1 = (qY t L).2.1 := by
  unfold qE
  split
  · rfl
  · rw [tFail_1]
theorem qE_0 (h : (qE t L).2 = 0) : (qY t L).2.2 = 0 ∧ tKd t L (qY t L).2 = 0 ∧ qE t L = (qY t L).2 := by
  unfold qE at h ⊢
  by_cases c : tKd t L (qY t L).2 = 0
  · rw [if_pos c] at h ⊢; exact ⟨h, c, rfl⟩
  · rw [if_neg c] at h; exact absurd h (tFail_2 (by decide))
theorem qWd_x (h : tWd t L (zsbi 25) (0, 0)) : ¬ tWd t L (zsbi 26) (0, 0) := fun k => by
  have a := h.2.1
  have b := k.2.1
  rw [a] at b
  exact absurd b (by decide)
/-- what a query of the reference may change -/
def mQu (hm : Nat) (A : Nat → Nat) (h : Nat) (j : Int) : Prop := mPn hm A h j ∨ (h = hm ∧ (j = 5 ∨ j = 19 ∨ j = 26)) ∨ h = A 7 ∨ h = A 8 ∨ h = A 30
theorem mPn_q (f : zFr (mPn hm A) σ σ1) : zFr (mQu hm A) σ σ1 := f.wk fun _ _ q => Or.inl q
theorem mP7_u (f : zFr (mP7 hm) σ σ1) : zFr (mQu hm A) σ σ1 := f.wk fun _ j q => if c : j ≤ 25 then Or.inl (Or.inl (Or.inl ⟨q.1, q.2.1, c⟩)) else if c2 : j = 26 then Or.inr (Or.inl ⟨q.1, Or.inr (Or.inr c2)⟩) else Or.inl (Or.inr ⟨q.1, by have := q.2; omega⟩)
/-- what compiling leaves -/
def mPz (hm : Nat) (A : Nat → Nat) (h : Nat) (j : Int) : Prop := mPn hm A h j ∨ (h = hm ∧ (j = 5 ∨ j = 26))
theorem mQu_A {k : Nat} (hM : zMo σ hm A) (f : zFr (mQu hm A) σ σ1) (hk : k ∈ zmf.map (·.1)) (h7 : k ≠ 7) (h8 : k ≠ 8) (h29 : k ≠ 29) (h30 : k ≠ 30) : zia σ1 (A k) = zia σ (A k) := f.at fun j q => by
  have ne : ∀ i, i ∈ zmf.map (·.1) → k ≠ i → A k ≠ A i := fun i hi e => zMo_ne hM hk hi e
  have nh := zMo_hm1 hM hk zMo_h1
  rcases q with q | q | q | q | q
  · rcases q with q | q
    · rcases q with q | q
      · exact nh q.1
      · rcases q with q | q
        · exact nh q.1
        · exact ne 29 (by decide) h29 q
    · exact nh q.1
  · exact nh q.1
  · exact ne 7 (by decide) h7 q
  · exact ne 8 (by decide) h8 q
  · exact ne 30 (by decide) h30 q
theorem mQu_F {k : Nat} {v : Int} (hM : zMo σ hm A) (f : zFr (mQu hm A) σ σ1) (h5 : k < 19) (h9 : k ≠ 5) (e : zia σ hm (k : Int) = v) : zia σ1 hm (k : Int) = v := zFr_F f (fun q => by
  have ne : ∀ i, i ∈ zmf.map (·.1) → hm ≠ A i := fun i hi e => zMo_hm1 hM hi zMo_h1 e.symm
  rcases q with q | q | q | q | q
  · rcases q with q | q
    · rcases q with q | q
      · have := q.2; omega
      · rcases q with q | q
        · have := q.2; omega
        · exact ne 29 (by decide) q
    · have := q.2; omega
  · have := q.2; omega
  · exact ne 7 (by decide) q
  · exact ne 8 (by decide) q
  · exact ne 30 (by decide) q) e
theorem mPn_A {k : Nat} (hM : zMo σ hm A) (f : zFr (mPn hm A) σ σ1) (hk : k ∈ zmf.map (·.1)) (h29 : k ≠ 29) : zia σ1 (A k) = zia σ (A k) := f.at fun j q => by
  have nh := zMo_hm1 hM hk zMo_h1
  rcases q with q | q
  · rcases q with q | q
    · exact nh q.1
    · rcases q with q | q
      · exact nh q.1
      · exact zMo_ne hM hk (by decide) h29 q
  · exact nh q.1
theorem mPn_F {k : Nat} {v : Int} (hM : zMo σ hm A) (f : zFr (mPn hm A) σ σ1) (h5 : k < 20 ∨ k = 26) (e : zia σ hm (k : Int) = v) : zia σ1 hm (k : Int) = v := zFr_F f (fun q => by
  rcases q with q | q
  · rcases q with q | q
    · have := q.2; omega
    · rcases q with q | q
      · have := q.2; omega
      · exact zMo_hm1 hM (k := 29) (by decide) zMo_h1 q.symm
  · have := q.2; omega) e
theorem mCd_at {P : Nat → Int → Prop} (h : mCd σ hm A l) (f : zFr P σ σ1) (n31 : ¬ P hm ((31 : Nat) : Int)) (nA : ∀ j, ¬ P (A 29) j) : mCd σ1 hm A l := ⟨zFr_F f n31 h.1, fun i hi => (congrFun (f.at nA) _).trans (h.2 i hi)⟩
theorem zsum_b1 {f : Int → Int} {n : Nat} (h : ∀ i : Nat, i < n → f i = 0 ∨ f i = 1) : 0 ≤ zsum f n ∧ zsum f n ≤ n := by
  induction n with
  | zero => exact ⟨Int.le_refl _, Int.le_refl _⟩
  | succ n ih =>
    have a := ih fun i hi => h i (by omega)
    have b := h n (by omega)
    have e : zsum f (n + 1) = zsum f n + f n := rfl
    rw [e]; omega
theorem zq_rest (hG : zOS G) (hL2 : L ≤ 200) (hM : zMo σ hm A) (hN : zia σ (A 0) = N) (hV : mV N) (hW : mW N) (hx : mTx σ A t L) (hs : mTs σ hm t L (qA0 t L)) (hnm : mNm σ A) (hcd : mCd σ hm A []) (h27 : zia σ hm ((27 : Nat) : Int) = 0) (h5 : zia σ hm ((5 : Nat) : Int) = 0) : zF G mX12_query (d + 30) 75 [(2, zI (zb (tWd t L (zsbi 26) (0, 0)))), (0, zR hm), (1, zI (L : Int))] [] σ (fun ro σ1 => ro = .inl (some (zI (qAns N t L))) ∧ zFr (mQu hm A) σ σ1 ∧ zia σ1 hm ((5 : Nat) : Int) = 0 ∧ zia σ1 hm ((19 : Nat) : Int) = 0 ∧ zia σ1 hm ((26 : Nat) : Int) = (if (qE t L).2 = 0 then -1 else ((tbg t L (qE t L).1 : Nat) : Int))) := by
  have hb := hV.b
  have hnS := nS_eq hV
  have ebY := tk_b t L (qY t L).2.1
  refine zF_aload_n 76 dX12_query_75 rfl rfl ?_
  refine zF_callV 79 (d2 := (d + 29)) (as := []) dX12_query_76 rfl kX12_467 iX12_compileTest (ci := 12) rfl eX12_compileTest (Nat.le_refl _) hM.1 hM.2.1 rfl rfl (Nat.le_of_ble_eq_true rfl) (zE.mono (zq_all hG hL2 (d + 29) σ (qA0 t L) [] (by omega) hM hx hs hnm (fun _ => ⟨hcd, Nat.zero_le _⟩) h27) fun ro σa1 hh1 => ?_)
  obtain ⟨er1, fr1, p1⟩ := hh1
  subst er1
  refine ⟨fr1.1, ?_⟩
  show zF G mX12_query (d + 30) 79 [(2, zI (zb (tWd t L (zsbi 26) (0, 0)))), (0, zR hm), (1, zI (L : Int))] [] σa1 _
  have hMa1 := zMo_f2 fr1 hM
  have hxa1 := mTx_n hM fr1 hx
  have hs1a : mTs σa1 hm t L (qY t L).2 := p1.1
  replace p1 : mTs σa1 hm t L (qY t L).2 ∧ zia σa1 hm ((27 : Nat) : Int) = 0 ∧ ((qY t L).2.2 = 0 → mCd σa1 hm A (qY t L).1) := p1
  have eb1 := hs1a.2.2.2.2.2.2.2
  refine zF_aload_n 80 dX12_query_79 rfl rfl ?_
  refine zF_aload_n 81 dX12_query_80 rfl rfl ?_
  refine zF_getI 84 dX12_query_81 rfl gX12_363 (by decide) (by decide) hMa1.1 hMa1.2.1 hs1a.2.2.2.2.2.1 ?_
  refine zF_if_ne 94 87 dX12_query_84 rfl rfl (by first | decide | assumption | exact zb_rg _ | (constructor <;> omega)) (fun c1 => ?_) (fun c1 => ?_)
  · refine zF_iconst 95 dX12_query_94 rfl ?_
    refine zF_goto 99 dX12_query_95 rfl ?_
    refine zF_iconst 100 dX12_query_99 rfl ?_
    refine zF_callV 103 (d2 := (d + 29)) (as := [zI 1, zI 1]) dX12_query_100 rfl kX12_382 iX12_check (ci := 12) rfl eX12_check (Nat.le_refl _) hMa1.1 hMa1.2.1 rfl rfl (Nat.le_of_ble_eq_true rfl) (zE.mono (zt_X12_check (σ := σa1) (P := True) (c := 1) hMa1 hxa1 hs1a rfl (by decide) (by decide)) fun ro σa2 hh2 => ?_)
    obtain ⟨er2, fr2, p2⟩ := hh2
    subst er2
    refine ⟨fr2.1, ?_⟩
    show zF G mX12_query (d + 30) 103 [(2, zI (zb (tWd t L (zsbi 26) (0, 0)))), (0, zR hm), (1, zI (L : Int))] [] σa2 _
    have hMa2 := zMo_f2 (σ := σa1) fr2 hMa1
    have hxa2 := mTx_t (σ := σa1) hMa1 hxa1 fr2
    have hs2a : mTs σa2 hm t L (qY t L).2 := mTs_to p2 (if_pos trivial)
    have hK : tKd t L (qY t L).2 = 0 := tKd_e (by assumption)
    refine zF_aload_n 104 dX12_query_103 rfl rfl ?_
    refine zF_callV 107 (d2 := (d + 29)) (as := []) dX12_query_104 rfl kX12_449 iX12_finish (ci := 12) rfl eX12_finish (Nat.le_refl _) hMa2.1 hMa2.2.1 rfl rfl (Nat.le_of_ble_eq_true rfl) (zE.mono (zt_X12_finish (σ := σa2) hMa2 hxa2 hs2a) fun ro σa3 hh3 => ?_)
    obtain ⟨er3, fr3, p3⟩ := hh3
    subst er3
    refine ⟨fr3.1, ?_⟩
    show zF G mX12_query (d + 30) 107 [(2, zI (zb (tWd t L (zsbi 26) (0, 0)))), (0, zR hm), (1, zI (L : Int))] [zI ((qY t L).2.2)] σa3 _
    have hMa3 := zMo_f2 fr3 hMa2
    have hqe : qE t L = (qY t L).2 := (if_pos hK)
    have hNa3 : zia σa3 (A 0) = N := (fr3.at fun j q => zMo_hm1 (σ := σa2) hMa2 (k := 0) (by decide) zMo_h1 q.1).trans ((mPt_A (σ := σa1) hMa1 fr2 (k := 0) (by decide)).trans ((mPn_A hM fr1 (k := 0) (by decide) (by decide)).trans hN))
    have h5F : zia σa3 hm ((5 : Nat) : Int) = 0 := zFr_F fr3 (fun q => absurd q.2 (by decide)) (mPt_o fr2 (by omega) (mPn_F hM fr1 (by omega) h5))
    have h19F := p3.1
    have h26F : zia σa3 hm ((26 : Nat) : Int) = (if (qE t L).2 = 0 then -1 else ((tbg t L (qE t L).1 : Nat) : Int)) := by rw [hqe]; exact p3.2
    refine zF_if_eq 119 110 dX12_query_107 rfl rfl (by first | decide | assumption | exact zb_rg _ | (constructor <;> omega)) (fun c2 => ?_) (fun c2 => ?_)
    · exact absurd c2 (by first | assumption | omega)
    · refine zF_ldcw 113 dX12_query_110 rfl oX12_491 ?_
      refine zF_aload_n 114 dX12_query_113 rfl rfl ?_
      refine zF_getI 117 dX12_query_114 rfl gX12_363 (by decide) (by decide) hMa3.1 hMa3.2.1 (zFr_F fr3 (fun q => absurd q.2 (by decide)) hs2a.2.2.2.2.2.1) ?_
      refine zF_isub 118 dX12_query_117 rfl ?_
      exact zF_ireturn dX12_query_118 rfl (⟨congrArg (fun z => Sum.inl (some (zI z))) (by unfold qAns; rw [if_pos (by rw [hqe]; first | assumption | (show ¬ (1 : Int) = 0; decide))]; rw [hqe]), (((mPn_q fr1).tr (mPn_q (mPt_n fr2))).tr (fr3.wk fun _ _ q => Or.inr (Or.inl ⟨q.1, by have := q.2; omega⟩))), h5F, h19F, h26F⟩)
  · have hy0 : (qY t L).2.2 = 0 := by omega
    refine zF_aload_n 88 dX12_query_87 rfl rfl ?_
    refine zF_getI 91 dX12_query_88 rfl gX12_354 (by decide) (by decide) hMa1.1 hMa1.2.1 hs1a.2.2.2.2.1 ?_
    refine zF_if_ne 98 94 dX12_query_91 rfl rfl (by first | decide | assumption | exact zb_rg _ | (constructor <;> omega)) (fun c3 => ?_) (fun c3 => ?_)
    · refine zF_iconst 99 dX12_query_98 rfl ?_
      refine zF_iconst 100 dX12_query_99 rfl ?_
      refine zF_callV 103 (d2 := (d + 29)) (as := [zI 0, zI 1]) dX12_query_100 rfl kX12_382 iX12_check (ci := 12) rfl eX12_check (Nat.le_refl _) hMa1.1 hMa1.2.1 rfl rfl (Nat.le_of_ble_eq_true rfl) (zE.mono (zt_X12_check (σ := σa1) (P := False) (c := 1) hMa1 hxa1 hs1a rfl (by decide) (by decide)) fun ro σa4 hh4 => ?_)
      obtain ⟨er4, fr4, p4⟩ := hh4
      subst er4
      refine ⟨fr4.1, ?_⟩
      show zF G mX12_query (d + 30) 103 [(2, zI (zb (tWd t L (zsbi 26) (0, 0)))), (0, zR hm), (1, zI (L : Int))] [] σa4 _
      have hMa4 := zMo_f2 (σ := σa1) fr4 hMa1
      have hxa4 := mTx_t (σ := σa1) hMa1 hxa1 fr4
      have hs4a : mTs σa4 hm t L ((qY t L).2.1, 1) := mTs_to p4 ((if_neg id).trans (if_pos (by first | assumption | omega)) : (if False then (qY t L).2 else tFail 1 (qY t L).2) = ((qY t L).2.1, 1))
      have hK : ¬ tKd t L (qY t L).2 = 0 := by rw [tKd_0 hy0]; assumption
      refine zF_aload_n 104 dX12_query_103 rfl rfl ?_
      refine zF_callV 107 (d2 := (d + 29)) (as := []) dX12_query_104 rfl kX12_449 iX12_finish (ci := 12) rfl eX12_finish (Nat.le_refl _) hMa4.1 hMa4.2.1 rfl rfl (Nat.le_of_ble_eq_true rfl) (zE.mono (zt_X12_finish (σ := σa4) hMa4 hxa4 hs4a) fun ro σa5 hh5 => ?_)
      obtain ⟨er5, fr5, p5⟩ := hh5
      subst er5
      refine ⟨fr5.1, ?_⟩
      show zF G mX12_query (d + 30) 107 [(2, zI (zb (tWd t L (zsbi 26) (0, 0)))), (0, zR hm), (1, zI (L : Int))] [zI 1] σa5 _
      have hMa5 := zMo_f2 fr5 hMa4
      have hqe : qE t L = ((qY t L).2.1, 1) := ((if_neg hK).trans (if_pos hy0))
      have hNa5 : zia σa5 (A 0) = N := (fr5.at fun j q => zMo_hm1 (σ := σa4) hMa4 (k := 0) (by decide) zMo_h1 q.1).trans ((mPt_A (σ := σa1) hMa1 fr4 (k := 0) (by decide)).trans ((mPn_A hM fr1 (k := 0) (by decide) (by decide)).trans hN))
      have h5F : zia σa5 hm ((5 : Nat) : Int) = 0 := zFr_F fr5 (fun q => absurd q.2 (by decide)) (mPt_o fr4 (by omega) (mPn_F hM fr1 (by omega) h5))
      have h19F := p5.1
      have h26F : zia σa5 hm ((26 : Nat) : Int) = (if (qE t L).2 = 0 then -1 else ((tbg t L (qE t L).1 : Nat) : Int)) := by rw [hqe]; exact p5.2
      refine zF_if_eq 119 110 dX12_query_107 rfl rfl (by first | decide | assumption | exact zb_rg _ | (constructor <;> omega)) (fun c4 => ?_) (fun c4 => ?_)
      · exact absurd c4 (by first | decide | simp)
      · refine zF_ldcw 113 dX12_query_110 rfl oX12_491 ?_
        refine zF_aload_n 114 dX12_query_113 rfl rfl ?_
        refine zF_getI 117 dX12_query_114 rfl gX12_363 (by decide) (by decide) hMa5.1 hMa5.2.1 (zFr_F fr5 (fun q => absurd q.2 (by decide)) hs4a.2.2.2.2.2.1) ?_
        refine zF_isub 118 dX12_query_117 rfl ?_
        exact zF_ireturn dX12_query_118 rfl (⟨congrArg (fun z => Sum.inl (some (zI z))) (by unfold qAns; rw [if_pos (by rw [hqe]; first | assumption | (show ¬ (1 : Int) = 0; decide))]; rw [hqe]), (((mPn_q fr1).tr (mPn_q (mPt_n fr4))).tr (fr5.wk fun _ _ q => Or.inr (Or.inl ⟨q.1, by have := q.2; omega⟩))), h5F, h19F, h26F⟩)
    · refine zF_iconst 95 dX12_query_94 rfl ?_
      refine zF_goto 99 dX12_query_95 rfl ?_
      refine zF_iconst 100 dX12_query_99 rfl ?_
      refine zF_callV 103 (d2 := (d + 29)) (as := [zI 1, zI 1]) dX12_query_100 rfl kX12_382 iX12_check (ci := 12) rfl eX12_check (Nat.le_refl _) hMa1.1 hMa1.2.1 rfl rfl (Nat.le_of_ble_eq_true rfl) (zE.mono (zt_X12_check (σ := σa1) (P := True) (c := 1) hMa1 hxa1 hs1a rfl (by decide) (by decide)) fun ro σa6 hh6 => ?_)
      obtain ⟨er6, fr6, p6⟩ := hh6
      subst er6
      refine ⟨fr6.1, ?_⟩
      show zF G mX12_query (d + 30) 103 [(2, zI (zb (tWd t L (zsbi 26) (0, 0)))), (0, zR hm), (1, zI (L : Int))] [] σa6 _
      have hMa6 := zMo_f2 (σ := σa1) fr6 hMa1
      have hxa6 := mTx_t (σ := σa1) hMa1 hxa1 fr6
      have hs6a : mTs σa6 hm t L (qY t L).2 := mTs_to p6 (if_pos trivial)
      have hK : tKd t L (qY t L).2 = 0 := by rw [tKd_0 hy0]; omega
      refine zF_aload_n 104 dX12_query_103 rfl rfl ?_
      refine zF_callV 107 (d2 := (d + 29)) (as := []) dX12_query_104 rfl kX12_449 iX12_finish (ci := 12) rfl eX12_finish (Nat.le_refl _) hMa6.1 hMa6.2.1 rfl rfl (Nat.le_of_ble_eq_true rfl) (zE.mono (zt_X12_finish (σ := σa6) hMa6 hxa6 hs6a) fun ro σa7 hh7 => ?_)
      obtain ⟨er7, fr7, p7⟩ := hh7
      subst er7
      refine ⟨fr7.1, ?_⟩
      show zF G mX12_query (d + 30) 107 [(2, zI (zb (tWd t L (zsbi 26) (0, 0)))), (0, zR hm), (1, zI (L : Int))] [zI ((qY t L).2.2)] σa7 _
      have hMa7 := zMo_f2 fr7 hMa6
      have hqe : qE t L = (qY t L).2 := (if_pos hK)
      have hNa7 : zia σa7 (A 0) = N := (fr7.at fun j q => zMo_hm1 (σ := σa6) hMa6 (k := 0) (by decide) zMo_h1 q.1).trans ((mPt_A (σ := σa1) hMa1 fr6 (k := 0) (by decide)).trans ((mPn_A hM fr1 (k := 0) (by decide) (by decide)).trans hN))
      have h5F : zia σa7 hm ((5 : Nat) : Int) = 0 := zFr_F fr7 (fun q => absurd q.2 (by decide)) (mPt_o fr6 (by omega) (mPn_F hM fr1 (by omega) h5))
      have h19F := p7.1
      have h26F : zia σa7 hm ((26 : Nat) : Int) = (if (qE t L).2 = 0 then -1 else ((tbg t L (qE t L).1 : Nat) : Int)) := by rw [hqe]; exact p7.2
      have hcF : mCd σa7 hm A (qY t L).1 := mCd_at ((fun z => mCd_t (σ := σa1) hMa1 fr6 (p1.2.2 z)) hy0) fr7 (fun q => absurd q.2 (by decide)) (fun j q => zMo_hm1 hMa6 (k := 29) (by decide) zMo_h1 q.1)
      have hyw := qY_w hy0
      refine zF_if_eq 119 110 dX12_query_107 rfl rfl (by first | decide | assumption | exact zb_rg _ | (constructor <;> omega)) (fun c5 => ?_) (fun c5 => ?_)
      · refine zF_iconst 120 dX12_query_119 rfl ?_
        refine zF_istore_n 121 (ls' := [(3, zI 0), (2, zI (zb (tWd t L (zsbi 26) (0, 0)))), (0, zR hm), (1, zI (L : Int))]) dX12_query_120 rfl (by decide) rfl ?_
        refine zF_aload_n 122 dX12_query_121 rfl rfl ?_
        refine zF_callV 125 (d2 := (d + 29)) (as := []) dX12_query_122 rfl kX12_244 iX12_layWeek (ci := 12) rfl eX12_layWeek (Nat.le_refl _) hMa7.1 hMa7.2.1 rfl rfl (Nat.le_of_ble_eq_true rfl) (zE.mono (zt_X12_layWeek (σ := σa7) hMa7 hNa7 hV hW) fun ro σa8 hh8 => ?_)
        obtain ⟨er8, fr8, p8⟩ := hh8
        subst er8
        refine ⟨fr8.1, ?_⟩
        show zF G mX12_query (d + 30) 125 [(3, zI 0), (2, zI (zb (tWd t L (zsbi 26) (0, 0)))), (0, zR hm), (1, zI (L : Int))] [] σa8 _
        have hMa8 := zMo_f2 fr8 hMa7
        have hNa8 : zia σa8 (A 0) = N := zFr_N (σ := σa7) hMa7 hNa7 fr8
        have hgL : gOK N (zia σa8 (A 7)) := p8
        have h5L := (zFr_F fr8 (n78 (j := 0) hMa7) h5F)
        have h19L := (zFr_F fr8 (n78 (j := 0) hMa7) h19F)
        have h26L := (zFr_F fr8 (n78 (j := 0) hMa7) h26F)
        have hcL : mCd σa8 hm A (qY t L).1 := mCd_at hcF fr8 (n78 (j := 0) hMa7) (fun j q => q.elim (zMo_ne hMa7 (j := 29) (k := 7) (by decide) (by decide) (by decide)) (zMo_ne hMa7 (j := 29) (k := 8) (by decide) (by decide) (by decide)))
        refine zF_iconst 126 dX12_query_125 rfl ?_
        refine zF_istore 128 (ls' := [(4, zI 0), (3, zI 0), (2, zI (zb (tWd t L (zsbi 26) (0, 0)))), (0, zR hm), (1, zI (L : Int))]) dX12_query_126 rfl (by decide) rfl ?_
        refine zF_locs (ls' := [(4, zI ((0 : Nat) : Int)), (3, zI 0), (2, zI (zb (tWd t L (zsbi 26) (0, 0)))), (0, zR hm), (1, zI (L : Int))]) ⟨zlI rfl (by first | rfl | omega | (push_cast; omega) | exact congrArg (_ + ·) (zbT (by assumption)) | exact congrArg (_ + ·) (zbF (by assumption)) | exact congrArg (_ + ·) (zbT (by omega)) | exact congrArg (_ + ·) (zbF (by omega)) | exact congrArg (_ + ·) (if_pos (by omega)).symm | exact congrArg (_ + ·) (if_neg (by omega)).symm | exact (if_pos (by omega)).symm | exact (if_neg (by omega)).symm | exact zsub_s (if_pos (by omega)).symm | exact zsub_s0 (if_neg (by omega)).symm | exact zadd0 (if_neg (by omega)).symm | exact zadd0 (zbF (by omega)) | exact (Int.sub_zero _).symm), rfl, rfl, rfl, rfl, trivial⟩ ?_
        refine zF_while (X := Nat × Int) (fun y9 => nS N - y9.1) (fun y9 σ2 => y9.1 ≤ nS N ∧ zFr (fun h _ => h = A 30) σa8 σ2 ∧ y9.2 = zsum (fun x => zb ((qH N (qY t L).1) x = 1)) y9.1 ∧ (tWd t L (zsbi 26) (0, 0) → qFst (qH N (qY t L).1) (nS N) 0 = qFst (qH N (qY t L).1) (nS N - y9.1) y9.1)) (fun y9 => [(4, zI ((y9.1 : Nat) : Int)), (3, zI y9.2), (2, zI (zb (tWd t L (zsbi 26) (0, 0)))), (0, zR hm), (1, zI (L : Int))]) ?_ (0, 0) σa8 (⟨Nat.zero_le _, zFr.rf, rfl, fun _ => by rw [Nat.sub_zero]⟩)
        intro ⟨k, ct⟩ σ2 hI128 ih128
        show zF G mX12_query (d + 30) 128 [(4, zI ((k : Nat) : Int)), (3, zI ct), (2, zI (zb (tWd t L (zsbi 26) (0, 0)))), (0, zR hm), (1, zI (L : Int))] [] σ2 _
        obtain ⟨hkn, f2, hct, hfs⟩ := hI128
        replace hkn : k ≤ nS N := hkn
        replace hct : ct = zsum (fun x => zb ((qH N (qY t L).1) x = 1)) k := hct
        replace hfs : tWd t L (zsbi 26) (0, 0) → qFst (qH N (qY t L).1) (nS N) 0 = qFst (qH N (qY t L).1) (nS N - k) k := hfs
        have hM2 := zMo_f2 f2 hMa8
        have hN2 := (mN_k hMa8 f2 (k := 0) (by decide) (by decide)).trans hNa8
        have hc2 := mCd_k hMa8 f2 hcL
        have hg2 := mN_k hMa8 f2 (k := 7) (by decide) (by decide)
        have ctb := zsum_b1 (f := fun x => zb ((qH N (qY t L).1) x = 1)) (n := k) (fun i _ => zb01 _)
        refine zF_iload 130 dX12_query_128 rfl rfl ?_
        refine zF_aload_n 131 dX12_query_130 rfl rfl ?_
        refine zF_callVi 134 (d2 := (d + 29)) (as := []) dX12_query_131 rfl kX12_113 iX12_screens (ci := 12) rfl eX12_screens (Nat.le_refl _) hM2.1 hM2.2.1 rfl rfl (Nat.le_of_ble_eq_true rfl) ((by have z := zt_X12_screens (G := G) (d := d + 29) (σ := σ2) hM2; rw [hN2, hnS.1] at z; exact z)) ?_
        refine zF_icmp_ge 165 137 dX12_query_134 rfl rfl (by first | decide | assumption | exact zb_rg _ | (constructor <;> omega)) (by first | decide | assumption | exact zb_rg _ | (constructor <;> omega)) (fun c6 => ?_) (fun c6 => ?_)
        · refine zF_iload_n 166 dX12_query_165 rfl rfl ?_
          refine zF_ifb_eq 173 169 dX12_query_166 rfl rfl (fun c7 => ?_) (fun c7 => ?_)
          · have hP : ¬ tWd t L (zsbi 26) (0, 0) := by assumption
            refine zF_iload_n 174 dX12_query_173 rfl rfl ?_
            exact zF_ireturn dX12_query_174 rfl (⟨congrArg (fun z => Sum.inl (some (zI z))) (Eq.symm (by unfold qAns; rw [if_neg (by rw [hqe]; omega)]; rw [if_neg hP, hct, show k = nS N by omega])), (((((mPn_q fr1).tr (mPn_q (mPt_n fr6))).tr (fr7.wk fun _ _ q => Or.inr (Or.inl ⟨q.1, by have := q.2; omega⟩))).tr (fr8.wk fun _ _ q => Or.inr (Or.inr (q.elim Or.inl (fun q => Or.inr (Or.inl q)))))).tr (f2.wk fun _ _ q => Or.inr (Or.inr (Or.inr (Or.inr q))))), (zFr_F f2 (fun q => zMo_hm1 hMa8 (k := 30) (by decide) zMo_h1 q.symm) h5L), (zFr_F f2 (fun q => zMo_hm1 hMa8 (k := 30) (by decide) zMo_h1 q.symm) h19L), (zFr_F f2 (fun q => zMo_hm1 hMa8 (k := 30) (by decide) zMo_h1 q.symm) h26L)⟩)
          · have hP : tWd t L (zsbi 26) (0, 0) := by assumption
            refine zF_iconst 170 dX12_query_169 rfl ?_
            refine zF_goto 174 dX12_query_170 rfl ?_
            exact zF_ireturn dX12_query_174 rfl (⟨congrArg (fun z => Sum.inl (some (zI z))) (Eq.symm (by unfold qAns; rw [if_neg (by rw [hqe]; omega)]; rw [if_pos hP, hfs hP, show nS N - k = 0 by omega]; rfl)), (((((mPn_q fr1).tr (mPn_q (mPt_n fr6))).tr (fr7.wk fun _ _ q => Or.inr (Or.inl ⟨q.1, by have := q.2; omega⟩))).tr (fr8.wk fun _ _ q => Or.inr (Or.inr (q.elim Or.inl (fun q => Or.inr (Or.inl q)))))).tr (f2.wk fun _ _ q => Or.inr (Or.inr (Or.inr (Or.inr q))))), (zFr_F f2 (fun q => zMo_hm1 hMa8 (k := 30) (by decide) zMo_h1 q.symm) h5L), (zFr_F f2 (fun q => zMo_hm1 hMa8 (k := 30) (by decide) zMo_h1 q.symm) h19L), (zFr_F f2 (fun q => zMo_hm1 hMa8 (k := 30) (by decide) zMo_h1 q.symm) h26L)⟩)
        · have hkl : k < nS N := by omega
          have hpq : qPm N (zia σ2 (A 7)) (k : Int) = qPn N (k : Int) := qPm_eq (by rw [hg2]; exact hgL) (by omega) (by omega)
          refine zF_aload_n 138 dX12_query_137 rfl rfl ?_
          refine zF_iload 140 dX12_query_138 rfl rfl ?_
          refine zF_callV 143 (d2 := (d + 29)) (as := [zI ((k : Nat) : Int)]) dX12_query_140 rfl kX12_492 iX12_holdsFor (ci := 12) rfl eX12_holdsFor (Nat.le_refl _) hM2.1 hM2.2.1 rfl rfl (Nat.le_of_ble_eq_true rfl) (zE.mono (zt_X12_holdsFor (σ := σ2) (s := (k : Int)) (l := (qY t L).1) (v := (qH N (qY t L).1) (k : Int)) hM2 hN2 hV (by omega) (by omega) hc2 (by omega) (by rw [hpq]; exact qH_w hyw.2) (by rw [hpq]; exact qPn_r hV (by omega) (by omega))) fun ro σa9 hh9 => ?_)
          obtain ⟨er9, fr9, p9⟩ := hh9
          subst er9
          refine ⟨fr9.1, ?_⟩
          show zF G mX12_query (d + 30) 143 [(4, zI ((k : Nat) : Int)), (3, zI ct), (2, zI (zb (tWd t L (zsbi 26) (0, 0)))), (0, zR hm), (1, zI (L : Int))] [zI (zb ((qH N (qY t L).1) (k : Int) = 1))] σa9 _
          have hMa9 := zMo_f2 fr9 hM2
          have hNa9 := (mN_k hM2 fr9 (k := 0) (by decide) (by decide)).trans hN2
          refine zF_ifb_ne 149 146 dX12_query_143 rfl rfl (fun c8 => ?_) (fun c8 => ?_)
          · refine zF_iload_n 150 dX12_query_149 rfl rfl ?_
            refine zF_ifb_eq 156 153 dX12_query_150 rfl rfl (fun c9 => ?_) (fun c9 => ?_)
            · refine zF_iinc 159 (ls' := [(3, zI (ct + 1)), (4, zI ((k : Nat) : Int)), (2, zI (zb (tWd t L (zsbi 26) (0, 0)))), (0, zR hm), (1, zI (L : Int))]) dX12_query_156 rfl rfl rfl (by decide) rfl ?_
              refine zF_iinc 162 (ls' := [(4, zI (((k : Nat) : Int) + 1)), (3, zI (ct + 1)), (2, zI (zb (tWd t L (zsbi 26) (0, 0)))), (0, zR hm), (1, zI (L : Int))]) dX12_query_159 rfl rfl rfl (by decide) rfl ?_
              refine zF_goto 128 dX12_query_162 rfl ?_
              exact zF_locs (ls' := [(4, zI (((k + 1) : Nat) : Int)), (3, zI (ct + 1)), (2, zI (zb (tWd t L (zsbi 26) (0, 0)))), (0, zR hm), (1, zI (L : Int))]) ⟨zlI rfl (by first | rfl | omega | (push_cast; omega) | exact congrArg (_ + ·) (zbT (by assumption)) | exact congrArg (_ + ·) (zbF (by assumption)) | exact congrArg (_ + ·) (zbT (by omega)) | exact congrArg (_ + ·) (zbF (by omega)) | exact congrArg (_ + ·) (if_pos (by omega)).symm | exact congrArg (_ + ·) (if_neg (by omega)).symm | exact (if_pos (by omega)).symm | exact (if_neg (by omega)).symm | exact zsub_s (if_pos (by omega)).symm | exact zsub_s0 (if_neg (by omega)).symm | exact zadd0 (if_neg (by omega)).symm | exact zadd0 (zbF (by omega)) | exact (Int.sub_zero _).symm), rfl, rfl, rfl, rfl, trivial⟩ (ih128 ((k + 1), (ct + 1)) _ (by show nS N - (k + 1) < nS N - k; omega) (⟨by show k + 1 ≤ nS N; omega, (f2.tr fr9), by show _ = zsum (fun x => zb ((qH N (qY t L).1) x = 1)) (k + 1); rw [show zsum (fun x => zb ((qH N (qY t L).1) x = 1)) (k + 1) = zsum (fun x => zb ((qH N (qY t L).1) x = 1)) k + zb ((qH N (qY t L).1) (k : Int) = 1) from rfl, ← hct]; show (ct + 1) = ct + zb ((qH N (qY t L).1) (k : Int) = 1); first | exact congrArg (ct + ·) (zbT (by assumption)) | exact (Int.add_zero ct).symm.trans (congrArg (ct + ·) (zbF (by assumption))), fun hP => by show _ = qFst (qH N (qY t L).1) (nS N - (k + 1)) (k + 1); first | exact absurd hP (by assumption) | (rw [hfs hP, show nS N - k = (nS N - (k + 1)) + 1 by omega]; exact if_neg (by assumption))⟩))
            · have hP : tWd t L (zsbi 26) (0, 0) := by assumption
              refine zF_iload 155 dX12_query_153 rfl rfl ?_
              exact zF_ireturn dX12_query_155 rfl (⟨congrArg (fun z => Sum.inl (some (zI z))) (Eq.symm (by unfold qAns; rw [if_neg (by rw [hqe]; omega)]; rw [if_pos hP, hfs hP, show nS N - k = (nS N - (k + 1)) + 1 by omega]; exact if_pos (by assumption))), (((((mPn_q fr1).tr (mPn_q (mPt_n fr6))).tr (fr7.wk fun _ _ q => Or.inr (Or.inl ⟨q.1, by have := q.2; omega⟩))).tr (fr8.wk fun _ _ q => Or.inr (Or.inr (q.elim Or.inl (fun q => Or.inr (Or.inl q)))))).tr ((f2.tr fr9).wk fun _ _ q => Or.inr (Or.inr (Or.inr (Or.inr q))))), (zFr_F (f2.tr fr9) (fun q => zMo_hm1 hMa8 (k := 30) (by decide) zMo_h1 q.symm) h5L), (zFr_F (f2.tr fr9) (fun q => zMo_hm1 hMa8 (k := 30) (by decide) zMo_h1 q.symm) h19L), (zFr_F (f2.tr fr9) (fun q => zMo_hm1 hMa8 (k := 30) (by decide) zMo_h1 q.symm) h26L)⟩)
          · refine zF_goto 159 dX12_query_146 rfl ?_
            refine zF_iinc 162 (ls' := [(4, zI (((k : Nat) : Int) + 1)), (3, zI ct), (2, zI (zb (tWd t L (zsbi 26) (0, 0)))), (0, zR hm), (1, zI (L : Int))]) dX12_query_159 rfl rfl rfl (by decide) rfl ?_
            refine zF_goto 128 dX12_query_162 rfl ?_
            exact zF_locs (ls' := [(4, zI (((k + 1) : Nat) : Int)), (3, zI ct), (2, zI (zb (tWd t L (zsbi 26) (0, 0)))), (0, zR hm), (1, zI (L : Int))]) ⟨zlI rfl (by first | rfl | omega | (push_cast; omega) | exact congrArg (_ + ·) (zbT (by assumption)) | exact congrArg (_ + ·) (zbF (by assumption)) | exact congrArg (_ + ·) (zbT (by omega)) | exact congrArg (_ + ·) (zbF (by omega)) | exact congrArg (_ + ·) (if_pos (by omega)).symm | exact congrArg (_ + ·) (if_neg (by omega)).symm | exact (if_pos (by omega)).symm | exact (if_neg (by omega)).symm | exact zsub_s (if_pos (by omega)).symm | exact zsub_s0 (if_neg (by omega)).symm | exact zadd0 (if_neg (by omega)).symm | exact zadd0 (zbF (by omega)) | exact (Int.sub_zero _).symm), rfl, rfl, rfl, rfl, trivial⟩ (ih128 ((k + 1), ct) _ (by show nS N - (k + 1) < nS N - k; omega) (⟨by show k + 1 ≤ nS N; omega, (f2.tr fr9), by show _ = zsum (fun x => zb ((qH N (qY t L).1) x = 1)) (k + 1); rw [show zsum (fun x => zb ((qH N (qY t L).1) x = 1)) (k + 1) = zsum (fun x => zb ((qH N (qY t L).1) x = 1)) k + zb ((qH N (qY t L).1) (k : Int) = 1) from rfl, ← hct]; show ct = ct + zb ((qH N (qY t L).1) (k : Int) = 1); first | exact congrArg (ct + ·) (zbT (by assumption)) | exact (Int.add_zero ct).symm.trans (congrArg (ct + ·) (zbF (by assumption))), fun hP => by show _ = qFst (qH N (qY t L).1) (nS N - (k + 1)) (k + 1); first | exact absurd hP (by assumption) | (rw [hfs hP, show nS N - k = (nS N - (k + 1)) + 1 by omega]; exact if_neg (by assumption))⟩))
      · exact absurd c5 (by first | assumption | omega)
theorem zt_X12_query {c : Int} (hG : zOS G) (hM : zMo σ hm A) (hN : zia σ (A 0) = N) (hV : mV N) (hW : mW N) (hx : mTx σ A t L) (hnm : mNm σ A) (hc : zia σ hm ((19 : Nat) : Int) = c) (c1 : c ≤ 700) (hL : (L : Int) ≤ c) (hL2 : L ≤ 200) : zE G mX12_query (d + 30) [zR hm, zI (L : Int)] σ (fun ro σ1 => ro = .inl (some (zI (qAns N t L))) ∧ zFr (mQu hm A) σ σ1 ∧ zia σ1 hm ((5 : Nat) : Int) = 0 ∧ zia σ1 hm ((19 : Nat) : Int) = 0 ∧ zia σ1 hm ((26 : Nat) : Int) = (if (qE t L).2 = 0 then -1 else ((tbg t L (qE t L).1 : Nat) : Int))) := by
  refine zE_of rfl (by simp [zcat]) (Nat.le_of_ble_eq_true rfl) ?_
  show zF G mX12_query (d + 30) 0 [(0, zR hm), (1, zI (L : Int))] [] σ _
  have hl7 := hx.1
  refine zF_aload_n 1 dX12_query_0 rfl rfl ?_
  refine zF_iconst 2 dX12_query_1 rfl ?_
  refine zF_putI 5 dX12_query_2 rfl pX12_query_89 (Or.inl rfl) hM.1 hM.2.1 ?_
  refine zF_iload_n 6 dX12_query_5 rfl rfl ?_
  refine zF_iconst 7 dX12_query_6 rfl ?_
  refine zF_aload_n 8 dX12_query_7 rfl rfl ?_
  refine zF_getI 11 dX12_query_8 rfl gX12_339 (by decide) (by decide) hM.1 hM.2.1 (zsi_F (by decide) hc) ?_
  refine zF_sipush 14 dX12_query_11 rfl (by decide) ?_
  refine zF_min 17 dX12_query_14 rfl kX12_164 (Nat.le_refl _) (by first | decide | assumption | exact zb_rg _ | (constructor <;> omega)) (by first | decide | assumption | exact zb_rg _ | (constructor <;> omega)) (Nat.le_of_ble_eq_true rfl) ?_
  refine zF_callSi 20 (d2 := (d + 29)) (as := [zI (L : Int), zI 0, zI (min c 200)]) dX12_query_17 rfl kX12_109 sX12_inRange (Nat.le_refl _) rfl rfl (Nat.le_of_ble_eq_true rfl) (zt_X12_inRange (by first | decide | assumption | exact zb_rg _ | (constructor <;> omega)) (by first | decide | assumption | exact zb_rg _ | (constructor <;> omega)) (by first | decide | assumption | exact zb_rg _ | (constructor <;> omega))) ?_
  refine zF_ifb_ne 29 23 dX12_query_20 rfl rfl (fun c1 => ?_) (fun c1 => ?_)
  · refine zF_aload_n 30 dX12_query_29 rfl rfl ?_
    refine zF_iconst 31 dX12_query_30 rfl ?_
    refine zF_putI 34 dX12_query_31 rfl pX12_query_452 (Or.inl rfl) hM.1 hM.2.1 ?_
    refine zF_aload_n 35 dX12_query_34 rfl rfl ?_
    refine zF_iload_n 36 dX12_query_35 rfl rfl ?_
    refine zF_callV 39 (d2 := (d + 29)) (as := [zI (L : Int)]) dX12_query_36 rfl kX12_443 iX12_startText (ci := 12) rfl eX12_startText (Nat.le_refl _) hM.1 hM.2.1 rfl rfl (Nat.le_of_ble_eq_true rfl) (zE.mono (zt_X12_startText (σ := (zsi (zsi σ hm ((5 : Nat) : Int) 0) hm ((31 : Nat) : Int) 0)) hM (mTx_si hM (mTx_si hM hx))) fun ro σa1 hh1 => ?_)
    obtain ⟨er1, fr1, p1⟩ := hh1
    subst er1
    refine ⟨fr1.1, ?_⟩
    show zF G mX12_query (d + 30) 39 [(0, zR hm), (1, zI (L : Int))] [] σa1 _
    have hMa1 := zMo_f2 (σ := (zsi (zsi σ hm ((5 : Nat) : Int) 0) hm ((31 : Nat) : Int) 0)) fr1 hM
    have hxa1 := mTx_7 (σ := (zsi (zsi σ hm ((5 : Nat) : Int) 0) hm ((31 : Nat) : Int) 0)) hM (mTx_si hM (mTx_si hM hx)) fr1
    have hcd1 : mCd σa1 hm A [] := ⟨mP7_o fr1 (by omega) (zsi_same _ _ _ _), fun j hj => absurd hj (Nat.not_lt_zero _)⟩
    refine zF_aload_n 40 dX12_query_39 rfl rfl ?_
    refine zF_ldcSW 43 (i := 45) dX12_query_40 rfl rfl ?_
    refine zF_callVi 46 (d2 := (d + 29)) (as := [zR (zbg + 45)]) dX12_query_43 rfl kX12_378 iX12_isWord (ci := 12) rfl eX12_isWord (Nat.le_refl _) hMa1.1 hMa1.2.1 rfl rfl (Nat.le_of_ble_eq_true rfl) (zt_X12_isWord (σ := σa1) (i := 45) hMa1 hxa1 p1.1 hG (by decide)) ?_
    refine zF_istore_n 47 (ls' := [(2, zI (zb (tWd t L (zsbi 26) ((0, 0) : tS)))), (0, zR hm), (1, zI (L : Int))]) dX12_query_46 rfl (by decide) rfl ?_
    refine zF_aload_n 48 dX12_query_47 rfl rfl ?_
    refine zF_iload_n 49 dX12_query_48 rfl rfl ?_
    refine zF_ifb_ne 62 52 dX12_query_49 rfl rfl (fun c2 => ?_) (fun c2 => ?_)
    · refine zF_iconst 63 dX12_query_62 rfl ?_
      refine zF_goto 67 dX12_query_63 rfl ?_
      refine zF_iconst 68 dX12_query_67 rfl ?_
      refine zF_callV 71 (d2 := (d + 29)) (as := [zI 1, zI 1]) dX12_query_68 rfl kX12_382 iX12_check (ci := 12) rfl eX12_check (Nat.le_refl _) hMa1.1 hMa1.2.1 rfl rfl (Nat.le_of_ble_eq_true rfl) (zE.mono (zt_X12_check (σ := σa1) (P := True) (c := 1) hMa1 hxa1 p1.1 rfl (by decide) (by decide)) fun ro σa2 hh2 => ?_)
      obtain ⟨er2, fr2, p2⟩ := hh2
      subst er2
      refine ⟨fr2.1, ?_⟩
      show zF G mX12_query (d + 30) 71 [(2, zI (zb (tWd t L (zsbi 26) ((0, 0) : tS)))), (0, zR hm), (1, zI (L : Int))] [] σa2 _
      have hMa2 := zMo_f2 (σ := σa1) fr2 hMa1
      have hxa2 := mTx_t (σ := σa1) hMa1 hxa1 fr2
      have hs2a : mTs σa2 hm t L ((0, 0) : tS) := mTs_to p2 (if_pos trivial)
      refine zF_aload_n 72 dX12_query_71 rfl rfl ?_
      refine zF_callV 75 (d2 := (d + 29)) (as := []) dX12_query_72 rfl kX12_386 iX12_advance (ci := 12) rfl eX12_advance (Nat.le_refl _) hMa2.1 hMa2.2.1 rfl rfl (Nat.le_of_ble_eq_true rfl) (zE.mono (zt_X12_advance (σ := σa2) hMa2 hxa2 hs2a) fun ro σa3 hh3 => ?_)
      obtain ⟨er3, fr3, p3⟩ := hh3
      subst er3
      refine ⟨fr3.1, ?_⟩
      show zF G mX12_query (d + 30) 75 [(2, zI (zb (tWd t L (zsbi 26) ((0, 0) : tS)))), (0, zR hm), (1, zI (L : Int))] [] σa3 _
      have hMa3 := zMo_f2 (σ := σa2) fr3 hMa2
      have hxa3 := mTx_t (σ := σa2) hMa2 hxa2 fr3
      have hs3a : mTs σa3 hm t L (tAdv t L ((0, 0) : tS)) := p3
      exact (by
        have ea : qA0 t L = (tAdv t L ((0, 0) : tS)) := if_pos (by first | exact Or.inr (by assumption) | exact Or.inl (by assumption))
        exact (zq_rest hG hL2 hMa3 ((mPt_A (σ := σa2) hMa2 fr3 (k := 0) (by decide)).trans ((mPt_A (σ := σa1) hMa1 fr2 (k := 0) (by decide)).trans ((mP7_A (σ := (zsi (zsi σ hm ((5 : Nat) : Int) 0) hm ((31 : Nat) : Int) 0)) hM fr1 (k := 0) (by decide)).trans (zMo_hN (k := 0) (zMo_hN (k := 0) hN hM (by decide) zMo_h1) hM (by decide) zMo_h1)))) hV hW hxa3 (mTs_to hs3a ea.symm) (mNm_fr (mNm_fr (mNm_fr (σ := (zsi (zsi σ hm ((5 : Nat) : Int) 0) hm ((31 : Nat) : Int) 0)) hnm fr1) fr2) fr3) (mCd_t (σ := σa2) hMa2 fr3 (mCd_t (σ := σa1) hMa1 fr2 hcd1)) (mPt_o fr3 (by omega) (mPt_o fr2 (by omega) p1.2)) (mPt_o fr3 (by omega) (mPt_o fr2 (by omega) (mP7_o fr1 (by omega) (zsi_F (by decide) (zsi_same _ _ _ _)))))).mono fun r σ1 q => ⟨q.1, ((((zFr_si (Or.inl (Or.inl (Or.inr (Or.inl ⟨rfl, rfl⟩)))) (zFr_si (Or.inr (Or.inl ⟨rfl, Or.inl rfl⟩)) zFr.rf)).tr (mP7_u fr1)).tr (mPn_q (mPt_n fr2))).tr (mPn_q (mPt_n fr3))).tr q.2.1, q.2.2⟩)
    · refine zF_aload_n 53 dX12_query_52 rfl rfl ?_
      refine zF_ldcSW 56 (i := 46) dX12_query_53 rfl rfl ?_
      refine zF_callVi 59 (d2 := (d + 29)) (as := [zR (zbg + 46)]) dX12_query_56 rfl kX12_378 iX12_isWord (ci := 12) rfl eX12_isWord (Nat.le_refl _) hMa1.1 hMa1.2.1 rfl rfl (Nat.le_of_ble_eq_true rfl) (zt_X12_isWord (σ := σa1) (i := 46) hMa1 hxa1 p1.1 hG (by decide)) ?_
      refine zF_ifb_eq 66 62 dX12_query_59 rfl rfl (fun c3 => ?_) (fun c3 => ?_)
      · refine zF_iconst 67 dX12_query_66 rfl ?_
        refine zF_iconst 68 dX12_query_67 rfl ?_
        refine zF_callV 71 (d2 := (d + 29)) (as := [zI 0, zI 1]) dX12_query_68 rfl kX12_382 iX12_check (ci := 12) rfl eX12_check (Nat.le_refl _) hMa1.1 hMa1.2.1 rfl rfl (Nat.le_of_ble_eq_true rfl) (zE.mono (zt_X12_check (σ := σa1) (P := False) (c := 1) hMa1 hxa1 p1.1 rfl (by decide) (by decide)) fun ro σa4 hh4 => ?_)
        obtain ⟨er4, fr4, p4⟩ := hh4
        subst er4
        refine ⟨fr4.1, ?_⟩
        show zF G mX12_query (d + 30) 71 [(2, zI (zb (tWd t L (zsbi 26) ((0, 0) : tS)))), (0, zR hm), (1, zI (L : Int))] [] σa4 _
        have hMa4 := zMo_f2 (σ := σa1) fr4 hMa1
        have hxa4 := mTx_t (σ := σa1) hMa1 hxa1 fr4
        have hs4a : mTs σa4 hm t L ((0, 1) : tS) := mTs_to p4 ((if_neg id).trans (if_pos rfl) : (if False then ((0, 0) : tS) else tFail 1 (0, 0)) = (0, 1))
        refine zF_aload_n 72 dX12_query_71 rfl rfl ?_
        refine zF_callV 75 (d2 := (d + 29)) (as := []) dX12_query_72 rfl kX12_386 iX12_advance (ci := 12) rfl eX12_advance (Nat.le_refl _) hMa4.1 hMa4.2.1 rfl rfl (Nat.le_of_ble_eq_true rfl) (zE.mono (zt_X12_advance (σ := σa4) hMa4 hxa4 hs4a) fun ro σa5 hh5 => ?_)
        obtain ⟨er5, fr5, p5⟩ := hh5
        subst er5
        refine ⟨fr5.1, ?_⟩
        show zF G mX12_query (d + 30) 75 [(2, zI (zb (tWd t L (zsbi 26) ((0, 0) : tS)))), (0, zR hm), (1, zI (L : Int))] [] σa5 _
        have hMa5 := zMo_f2 (σ := σa4) fr5 hMa4
        have hxa5 := mTx_t (σ := σa4) hMa4 hxa4 fr5
        have hs5a : mTs σa5 hm t L ((0, 1) : tS) := mTs_to p5 (if_neg (by show ¬ (1 : Int) = 0; decide))
        exact (by
          have ea : qA0 t L = ((0, 1) : tS) := (if_neg (fun z => by rcases z with z | z <;> contradiction)).trans (if_pos rfl)
          exact (zq_rest hG hL2 hMa5 ((mPt_A (σ := σa4) hMa4 fr5 (k := 0) (by decide)).trans ((mPt_A (σ := σa1) hMa1 fr4 (k := 0) (by decide)).trans ((mP7_A (σ := (zsi (zsi σ hm ((5 : Nat) : Int) 0) hm ((31 : Nat) : Int) 0)) hM fr1 (k := 0) (by decide)).trans (zMo_hN (k := 0) (zMo_hN (k := 0) hN hM (by decide) zMo_h1) hM (by decide) zMo_h1)))) hV hW hxa5 (mTs_to hs5a ea.symm) (mNm_fr (mNm_fr (mNm_fr (σ := (zsi (zsi σ hm ((5 : Nat) : Int) 0) hm ((31 : Nat) : Int) 0)) hnm fr1) fr4) fr5) (mCd_t (σ := σa4) hMa4 fr5 (mCd_t (σ := σa1) hMa1 fr4 hcd1)) (mPt_o fr5 (by omega) (mPt_o fr4 (by omega) p1.2)) (mPt_o fr5 (by omega) (mPt_o fr4 (by omega) (mP7_o fr1 (by omega) (zsi_F (by decide) (zsi_same _ _ _ _)))))).mono fun r σ1 q => ⟨q.1, ((((zFr_si (Or.inl (Or.inl (Or.inr (Or.inl ⟨rfl, rfl⟩)))) (zFr_si (Or.inr (Or.inl ⟨rfl, Or.inl rfl⟩)) zFr.rf)).tr (mP7_u fr1)).tr (mPn_q (mPt_n fr4))).tr (mPn_q (mPt_n fr5))).tr q.2.1, q.2.2⟩)
      · refine zF_iconst 63 dX12_query_62 rfl ?_
        refine zF_goto 67 dX12_query_63 rfl ?_
        refine zF_iconst 68 dX12_query_67 rfl ?_
        refine zF_callV 71 (d2 := (d + 29)) (as := [zI 1, zI 1]) dX12_query_68 rfl kX12_382 iX12_check (ci := 12) rfl eX12_check (Nat.le_refl _) hMa1.1 hMa1.2.1 rfl rfl (Nat.le_of_ble_eq_true rfl) (zE.mono (zt_X12_check (σ := σa1) (P := True) (c := 1) hMa1 hxa1 p1.1 rfl (by decide) (by decide)) fun ro σa6 hh6 => ?_)
        obtain ⟨er6, fr6, p6⟩ := hh6
        subst er6
        refine ⟨fr6.1, ?_⟩
        show zF G mX12_query (d + 30) 71 [(2, zI (zb (tWd t L (zsbi 26) ((0, 0) : tS)))), (0, zR hm), (1, zI (L : Int))] [] σa6 _
        have hMa6 := zMo_f2 (σ := σa1) fr6 hMa1
        have hxa6 := mTx_t (σ := σa1) hMa1 hxa1 fr6
        have hs6a : mTs σa6 hm t L ((0, 0) : tS) := mTs_to p6 (if_pos trivial)
        refine zF_aload_n 72 dX12_query_71 rfl rfl ?_
        refine zF_callV 75 (d2 := (d + 29)) (as := []) dX12_query_72 rfl kX12_386 iX12_advance (ci := 12) rfl eX12_advance (Nat.le_refl _) hMa6.1 hMa6.2.1 rfl rfl (Nat.le_of_ble_eq_true rfl) (zE.mono (zt_X12_advance (σ := σa6) hMa6 hxa6 hs6a) fun ro σa7 hh7 => ?_)
        obtain ⟨er7, fr7, p7⟩ := hh7
        subst er7
        refine ⟨fr7.1, ?_⟩
        show zF G mX12_query (d + 30) 75 [(2, zI (zb (tWd t L (zsbi 26) ((0, 0) : tS)))), (0, zR hm), (1, zI (L : Int))] [] σa7 _
        have hMa7 := zMo_f2 (σ := σa6) fr7 hMa6
        have hxa7 := mTx_t (σ := σa6) hMa6 hxa6 fr7
        have hs7a : mTs σa7 hm t L (tAdv t L ((0, 0) : tS)) := p7
        exact (by
          have ea : qA0 t L = (tAdv t L ((0, 0) : tS)) := if_pos (by first | exact Or.inr (by assumption) | exact Or.inl (by assumption))
          exact (zq_rest hG hL2 hMa7 ((mPt_A (σ := σa6) hMa6 fr7 (k := 0) (by decide)).trans ((mPt_A (σ := σa1) hMa1 fr6 (k := 0) (by decide)).trans ((mP7_A (σ := (zsi (zsi σ hm ((5 : Nat) : Int) 0) hm ((31 : Nat) : Int) 0)) hM fr1 (k := 0) (by decide)).trans (zMo_hN (k := 0) (zMo_hN (k := 0) hN hM (by decide) zMo_h1) hM (by decide) zMo_h1)))) hV hW hxa7 (mTs_to hs7a ea.symm) (mNm_fr (mNm_fr (mNm_fr (σ := (zsi (zsi σ hm ((5 : Nat) : Int) 0) hm ((31 : Nat) : Int) 0)) hnm fr1) fr6) fr7) (mCd_t (σ := σa6) hMa6 fr7 (mCd_t (σ := σa1) hMa1 fr6 hcd1)) (mPt_o fr7 (by omega) (mPt_o fr6 (by omega) p1.2)) (mPt_o fr7 (by omega) (mPt_o fr6 (by omega) (mP7_o fr1 (by omega) (zsi_F (by decide) (zsi_same _ _ _ _)))))).mono fun r σ1 q => ⟨q.1, ((((zFr_si (Or.inl (Or.inl (Or.inr (Or.inl ⟨rfl, rfl⟩)))) (zFr_si (Or.inr (Or.inl ⟨rfl, Or.inl rfl⟩)) zFr.rf)).tr (mP7_u fr1)).tr (mPn_q (mPt_n fr6))).tr (mPn_q (mPt_n fr7))).tr q.2.1, q.2.2⟩)
  · exact absurd c1 (by omega)
theorem zt_X12_query_bad {n c : Int} (hM : zMo σ hm A) (hc : zia σ hm ((19 : Nat) : Int) = c) (c0 : 0 ≤ c) (c1 : c ≤ 700) (zn : zrg n) (h : ¬ (0 ≤ n ∧ n ≤ 200 ∧ n ≤ c)) : zE G mX12_query (d + 30) [zR hm, zI n] σ (fun ro σ1 => ro = .inl (some (zI 0)) ∧ σ1 = zsi (zsi σ hm ((5 : Nat) : Int) 0) hm ((5 : Nat) : Int) 1) := by
  refine zE_of rfl (by simp [zcat]) (Nat.le_of_ble_eq_true rfl) ?_
  show zF G mX12_query (d + 30) 0 [(0, zR hm), (1, zI n)] [] σ _
  refine zF_aload_n 1 dX12_query_0 rfl rfl ?_
  refine zF_iconst 2 dX12_query_1 rfl ?_
  refine zF_putI 5 dX12_query_2 rfl pX12_query_89 (Or.inl rfl) hM.1 hM.2.1 ?_
  refine zF_iload_n 6 dX12_query_5 rfl rfl ?_
  refine zF_iconst 7 dX12_query_6 rfl ?_
  refine zF_aload_n 8 dX12_query_7 rfl rfl ?_
  refine zF_getI 11 dX12_query_8 rfl gX12_339 (by decide) (by decide) hM.1 hM.2.1 (zsi_F (by decide) hc) ?_
  refine zF_sipush 14 dX12_query_11 rfl (by decide) ?_
  refine zF_min 17 dX12_query_14 rfl kX12_164 (Nat.le_refl _) (by first | decide | assumption | exact zb_rg _ | (constructor <;> omega)) (by first | decide | assumption | exact zb_rg _ | (constructor <;> omega)) (Nat.le_of_ble_eq_true rfl) ?_
  refine zF_callSi 20 (d2 := (d + 29)) (as := [zI n, zI 0, zI (min c 200)]) dX12_query_17 rfl kX12_109 sX12_inRange (Nat.le_refl _) rfl rfl (Nat.le_of_ble_eq_true rfl) (zt_X12_inRange (by first | decide | assumption | exact zb_rg _ | (constructor <;> omega)) (by first | decide | assumption | exact zb_rg _ | (constructor <;> omega)) (by first | decide | assumption | exact zb_rg _ | (constructor <;> omega))) ?_
  refine zF_ifb_ne 29 23 dX12_query_20 rfl rfl (fun c1 => ?_) (fun c1 => ?_)
  · exact absurd c1 (by omega)
  · refine zF_aload_n 24 dX12_query_23 rfl rfl ?_
    refine zF_iconst 25 dX12_query_24 rfl ?_
    refine zF_callV 28 (d2 := (d + 29)) (as := [zI 1]) dX12_query_25 rfl kX12_238 iX12_raise (ci := 12) rfl eX12_raise (Nat.le_refl _) hM.1 hM.2.1 rfl rfl (Nat.le_of_ble_eq_true rfl) (zE.mono (zt_X12_raise (σ := (zsi σ hm ((5 : Nat) : Int) 0)) hM) fun ro σx1 hh1 => ?_)
    obtain ⟨er1, es1⟩ := hh1
    subst er1
    subst es1
    refine ⟨rfl, ?_⟩
    exact zF_ireturn dX12_query_28 rfl (⟨rfl, rfl⟩)
end ZQA

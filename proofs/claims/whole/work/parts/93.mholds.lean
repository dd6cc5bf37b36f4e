/-! the reference: a query's codes on a screen -/
section ZMH
variable {G : zG} {d : Nat} {σ σ0 σ1 : zMem} {hm : Nat} {A : Nat → Nat} {N : Int → Int} {t : Int → Int} {L : Nat} {s : tS} {l : List Int} {st : List Int}
/-- the stack's cells -/
def mSk (σ : zMem) (A : Nat → Nat) (st : List Int) : Prop := ∀ i : Nat, i < st.length → zia σ (A 30) ((st.length - 1 - i : Nat) : Int) = st.getD i 0
theorem mSk_at {i : Nat} {j : Int} (h : mSk σ A st) (hi : i < st.length) (e : j = ((st.length - 1 - i : Nat) : Int)) : zia σ (A 30) j = st.getD i 0 := by rw [e]; exact h i hi
theorem mSk_put {m : Nat} {j v : Int} (h : mSk σ A st) (hm : m ≤ st.length) (e : j = ((st.length - m : Nat) : Int)) : mSk (zsi σ (A 30) j v) A (v :: st.drop m) := by
  intro i hi
  have hl : (v :: st.drop m).length = st.length - m + 1 := by rw [List.length_cons, List.length_drop]
  rw [hl] at hi ⊢
  rw [zia_si]
  cases i with
  | zero => rw [if_pos ⟨rfl, by omega⟩]; rfl
  | succ i =>
    rw [if_neg (fun q => by have := q.2; omega)]
    rw [mSk_at (i := m + i) h (by omega) (by omega)]
    show st.getD (m + i) 0 = (st.drop m).getD i 0
    rw [List.getD_eq_getElem?_getD, List.getD_eq_getElem?_getD, List.getElem?_drop]
theorem qdrop {k : Nat} (h : k < l.length) : l.drop k = l.getD k 0 :: l.drop (k + 1) := by
  rw [List.drop_eq_getElem_cons h, List.getD_eq_getElem?_getD, List.getElem?_eq_getElem h]; rfl
theorem mCd_30 {j v : Int} (hM : zMo σ hm A) (h : mCd σ hm A l) : mCd (zsi σ (A 30) j v) hm A l :=
  ⟨zMo_AF (j := 30) h.1 hM (by decide) zMo_h1, fun i hi => (congrFun (zMo_AN (j := 30) (k := 29) rfl hM (by decide) (by decide) (by decide)) _).trans (h.2 i hi)⟩
theorem mCd_k (hM : zMo σ hm A) (f : zFr (fun h _ => h = A 30) σ σ1) (h : mCd σ hm A l) : mCd σ1 hm A l :=
  ⟨zFr_F f (fun q => zMo_hm1 hM (k := 30) (by decide) zMo_h1 q.symm) h.1, fun i hi => (congrFun (f.at fun j q => zMo_ne hM (j := 29) (k := 30) (by decide) (by decide) (by decide) q) _).trans (h.2 i hi)⟩
theorem mN_k {k : Nat} (hM : zMo σ hm A) (f : zFr (fun h _ => h = A 30) σ σ1) (hk : k ∈ zmf.map (·.1)) (hk2 : k ≠ 30) : zia σ1 (A k) = zia σ (A k) := f.at fun j q => zMo_ne hM (j := k) (k := 30) hk (by decide) hk2 q
theorem zq_operate {c x y : Int} (hc : c = -20 ∨ c = -21 ∨ c = -22 ∨ c = -24 ∨ c = -25) (hx : zrgL x) (hy : zrgL y) (h01 : c ≤ -24 → (x = 0 ∨ x = 1) ∧ (y = 0 ∨ y = 1)) : zE G mX12_operate d [zI c, zL x, zL y] σ (fun ro σ1 => ro = .inl (some (zL (qOp c x y))) ∧ zFr (fun _ _ => False) σ σ1 ∧ σ1 = σ) :=
  (zt_X12_operate hc hx hy h01).mono fun r σ1 q => ⟨q.1, by rw [q.2]; exact zFr.rf, q.2⟩
theorem zt_X12_holdsFor {s v : Int} (hM : zMo σ hm A) (hN : zia σ (A 0) = N) (hV : mV N) (s0 : 0 ≤ s) (s1 : s < 10) (hc : mCd σ hm A l) (hl : l.length ≤ 200) (hw : qW (qPm N (zia σ (A 7)) s) l v) (hp : qPr (qPm N (zia σ (A 7)) s)) : zE G mX12_holdsFor (d + 7) [zR hm, zI s] σ (fun ro σ1 => ro = .inl (some (zI (zb (v = 1)))) ∧ zFr (fun h _ => h = A 30) σ σ1 ∧ True) := by
  refine zE_of rfl (by simp [zcat]) (Nat.le_of_ble_eq_true rfl) ?_
  show zF G mX12_holdsFor (d + 7) 0 [(0, zR hm), (1, zI s)] [] σ _
  have hb := hV.b
  refine zF_iconst 1 dX12_holdsFor_0 rfl ?_
  refine zF_istore_n 2 (ls' := [(2, zI 0), (0, zR hm), (1, zI s)]) dX12_holdsFor_1 rfl (by decide) rfl ?_
  refine zF_iconst 3 dX12_holdsFor_2 rfl ?_
  refine zF_istore_n 4 (ls' := [(3, zI 0), (2, zI 0), (0, zR hm), (1, zI s)]) dX12_holdsFor_3 rfl (by decide) rfl ?_
  refine zF_locs (ls' := [(3, zI ((0 : Nat) : Int)), (2, zI ((([] : List Int).length : Nat) : Int)), (0, zR hm), (1, zI s)]) ⟨zlI rfl (by first | rfl | omega | (push_cast; omega) | (rw [List.length_cons, List.length_drop]; push_cast; omega) | exact congrArg (_ + ·) (zbT (by assumption)) | (rw [List.length_cons]; push_cast; omega)), zlI rfl (by first | rfl | omega | (push_cast; omega) | (rw [List.length_cons, List.length_drop]; push_cast; omega) | exact congrArg (_ + ·) (zbT (by assumption)) | (rw [List.length_cons]; push_cast; omega)), rfl, rfl, trivial⟩ ?_
  refine zF_while (X := Nat × List Int) (fun y9 => l.length - y9.1) (fun y9 σ2 => y9.1 ≤ l.length ∧ zFr (fun h _ => h = A 30) σ σ2 ∧ mSk σ2 A y9.2 ∧ y9.2.length ≤ y9.1 ∧ qOK (qPm N (zia σ (A 7)) s) (l.drop y9.1) y9.2 ∧ qEv (qPm N (zia σ (A 7)) s) (l.drop y9.1) y9.2 = [v]) (fun y9 => [(3, zI ((y9.1 : Nat) : Int)), (2, zI ((y9.2.length : Nat) : Int)), (0, zR hm), (1, zI s)]) ?_ (0, ([] : List Int)) σ (⟨Nat.zero_le _, zFr.rf, fun i hi => absurd hi (Nat.not_lt_zero _), Nat.le_refl _, hw.2.2 hp [], hw.2.1 []⟩)
  intro ⟨k, st⟩ σ2 hI4 ih4
  show zF G mX12_holdsFor (d + 7) 4 [(3, zI ((k : Nat) : Int)), (2, zI ((st.length : Nat) : Int)), (0, zR hm), (1, zI s)] [] σ2 _
  obtain ⟨hkn, f2, hk2, hsk, hok, hev⟩ := hI4
  replace hkn : k ≤ l.length := hkn
  replace hk2 : mSk σ2 A st := hk2
  replace hsk : st.length ≤ k := hsk
  replace hok : qOK (qPm N (zia σ (A 7)) s) (l.drop k) st := hok
  replace hev : qEv (qPm N (zia σ (A 7)) s) (l.drop k) st = [v] := hev
  have hM2 := zMo_f2 f2 hM
  have hN2 := (mN_k hM f2 (k := 0) (by decide) (by decide)).trans hN
  have hg2 := mN_k hM f2 (k := 7) (by decide) (by decide)
  have hc2 := mCd_k hM f2 hc
  refine zF_iload_n 5 dX12_holdsFor_4 rfl rfl ?_
  refine zF_aload_n 6 dX12_holdsFor_5 rfl rfl ?_
  refine zF_getI 9 dX12_holdsFor_6 rfl gX12_452 (by decide) (by decide) hM2.1 hM2.2.1 hc2.1 ?_
  refine zF_icmp_ge 124 12 dX12_holdsFor_9 rfl rfl (by first | decide | assumption | exact zb_rg _ | (unfold zlcm; split; decide; split <;> decide) | (constructor <;> omega)) (by first | decide | assumption | exact zb_rg _ | (unfold zlcm; split; decide; split <;> decide) | (constructor <;> omega)) (fun c1 => ?_) (fun c1 => ?_)
  · have hkk : k = l.length := by omega
    have est : st = [v] := by rw [hkk, List.drop_length] at hev; exact hev
    have h9 : zia σ2 (A 30) 0 = v := by
      have w9 := mSk_at (i := 0) (j := 0) hk2 (by rw [est]; exact Nat.zero_lt_one) (by rw [est]; rfl)
      rw [est] at w9; exact w9
    have e1 : (((1 : Fin 2) : Nat) : Int) = 1 := rfl
    have q9 := zlcm_z (a := v) (b := (((1 : Fin 2) : Nat) : Int))
    refine zF_aload_n 125 dX12_holdsFor_124 rfl rfl ?_
    refine zF_getR 128 dX12_holdsFor_125 rfl gX12_81 hM2.1 hM2.2.1 (zM_30 hM2).1 ?_
    refine zF_iconst 129 dX12_holdsFor_128 rfl ?_
    refine zF_laload 130 dX12_holdsFor_129 rfl (zM_30 hM2).2.2 (zM_30 hM2).2.1 (by omega) (by omega) h9 ?_
    refine zF_lconst 131 dX12_holdsFor_130 rfl ?_
    refine zF_lcmp 132 dX12_holdsFor_131 rfl (by have := hw.1; constructor <;> omega) (by decide) ?_
    refine zF_if_ne 139 135 dX12_holdsFor_132 rfl rfl (by first | decide | assumption | exact zb_rg _ | (unfold zlcm; split; decide; split <;> decide) | (constructor <;> omega)) (fun c2 => ?_) (fun c2 => ?_)
    · refine zF_iconst 140 dX12_holdsFor_139 rfl ?_
      exact zF_zreturn dX12_holdsFor_140 rfl (by decide) (⟨congrArg (fun z => Sum.inl (some (zI z))) (by first | exact zbT (by omega) | exact zbF (by omega)), f2, trivial⟩)
    · refine zF_iconst 136 dX12_holdsFor_135 rfl ?_
      refine zF_goto 140 dX12_holdsFor_136 rfl ?_
      exact zF_zreturn dX12_holdsFor_140 rfl (by decide) (⟨congrArg (fun z => Sum.inl (some (zI z))) (by first | exact zbT (by omega) | exact zbF (by omega)), f2, trivial⟩)
  · have hkl : k < l.length := by omega
    have hdr := qdrop hkl
    rw [hdr] at hok hev
    replace hok : qSafe (l.getD k 0) st ∧ qOK (qPm N (zia σ (A 7)) s) (l.drop (k + 1)) (qStep (qPm N (zia σ (A 7)) s) (l.getD k 0) st) := hok
    replace hev : qEv (qPm N (zia σ (A 7)) s) (l.drop (k + 1)) (qStep (qPm N (zia σ (A 7)) s) (l.getD k 0) st) = [v] := hev
    have hsf := hok.1
    unfold qSafe at hsf
    refine zF_aload_n 13 dX12_holdsFor_12 rfl rfl ?_
    refine zF_getR 16 dX12_holdsFor_13 rfl gX12_78 hM2.1 hM2.2.1 (zM_29 hM2).1 ?_
    refine zF_iload_n 17 dX12_holdsFor_16 rfl rfl ?_
    refine zF_iaload 18 dX12_holdsFor_17 rfl (zM_29 hM2).2.2 (zM_29 hM2).2.1 (by omega) (by omega) (hc2.2 k (by omega)) ?_
    refine zF_istore 20 (ls' := [(4, zI (l.getD k 0)), (3, zI ((k : Nat) : Int)), (2, zI ((st.length : Nat) : Int)), (0, zR hm), (1, zI s)]) dX12_holdsFor_18 rfl (by decide) rfl ?_
    refine zF_iload 22 dX12_holdsFor_20 rfl rfl ?_
    refine zF_bipush 24 dX12_holdsFor_22 rfl (by decide) ?_
    refine zF_icmp_ne 48 27 dX12_holdsFor_24 rfl rfl (by first | decide | assumption | exact zb_rg _ | (unfold zlcm; split; decide; split <;> decide) | (constructor <;> omega)) (by first | decide | assumption | exact zb_rg _ | (unfold zlcm; split; decide; split <;> decide) | (constructor <;> omega)) (fun c3 => ?_) (fun c3 => ?_)
    · refine zF_iload 50 dX12_holdsFor_48 rfl rfl ?_
      refine zF_bipush 52 dX12_holdsFor_50 rfl (by decide) ?_
      refine zF_icmp_le 88 55 dX12_holdsFor_52 rfl rfl (by first | decide | assumption | exact zb_rg _ | (unfold zlcm; split; decide; split <;> decide) | (constructor <;> omega)) (by first | decide | assumption | exact zb_rg _ | (unfold zlcm; split; decide; split <;> decide) | (constructor <;> omega)) (fun c4 => ?_) (fun c4 => ?_)
      · have hop : l.getD k 0 = -20 ∨ l.getD k 0 = -21 ∨ l.getD k 0 = -22 ∨ l.getD k 0 = -24 ∨ l.getD k 0 = -25 := by omega
        have hst2 : 2 ≤ st.length := by omega
        have hz1 : zrgL (st.getD 1 0) := by constructor <;> omega
        have hz0 : zrgL (st.getD 0 0) := by constructor <;> omega
        have h01 : l.getD k 0 ≤ -24 → (st.getD 1 0 = 0 ∨ st.getD 1 0 = 1) ∧ (st.getD 0 0 = 0 ∨ st.getD 0 0 = 1) := fun z => by omega
        refine zF_iinc 91 (ls' := [(2, zI (((st.length : Nat) : Int) + (-1))), (4, zI (l.getD k 0)), (3, zI ((k : Nat) : Int)), (0, zR hm), (1, zI s)]) dX12_holdsFor_88 rfl rfl rfl (by decide) rfl ?_
        refine zF_aload_n 92 dX12_holdsFor_91 rfl rfl ?_
        refine zF_getR 95 dX12_holdsFor_92 rfl gX12_81 hM2.1 hM2.2.1 (zM_30 hM2).1 ?_
        refine zF_iload_n 96 dX12_holdsFor_95 rfl rfl ?_
        refine zF_iconst 97 dX12_holdsFor_96 rfl ?_
        refine zF_isub 98 dX12_holdsFor_97 rfl ?_
        refine zF_iload 100 dX12_holdsFor_98 rfl rfl ?_
        refine zF_aload_n 101 dX12_holdsFor_100 rfl rfl ?_
        refine zF_getR 104 dX12_holdsFor_101 rfl gX12_81 hM2.1 hM2.2.1 (zM_30 hM2).1 ?_
        refine zF_iload_n 105 dX12_holdsFor_104 rfl rfl ?_
        refine zF_iconst 106 dX12_holdsFor_105 rfl ?_
        refine zF_isub 107 dX12_holdsFor_106 rfl ?_
        refine zF_laload 108 dX12_holdsFor_107 rfl (zM_30 hM2).2.2 (zM_30 hM2).2.1 (by omega) (by omega) (mSk_at (i := 1) hk2 (by omega) (by omega)) ?_
        refine zF_aload_n 109 dX12_holdsFor_108 rfl rfl ?_
        refine zF_getR 112 dX12_holdsFor_109 rfl gX12_81 hM2.1 hM2.2.1 (zM_30 hM2).1 ?_
        refine zF_iload_n 113 dX12_holdsFor_112 rfl rfl ?_
        refine zF_laload 114 dX12_holdsFor_113 rfl (zM_30 hM2).2.2 (zM_30 hM2).2.1 (by omega) (by omega) (mSk_at (i := 0) hk2 (by omega) (by omega)) ?_
        refine zF_callS 117 (d2 := (d + 6)) (as := [zI (l.getD k 0), zL (st.getD 1 0), zL (st.getD 0 0)]) dX12_holdsFor_114 rfl kX12_483 sX12_operate (Nat.le_refl _) rfl rfl (Nat.le_of_ble_eq_true rfl) (zE.mono (zq_operate (σ := σ2) hop hz1 hz0 h01) fun ro σa1 hh1 => ?_)
        obtain ⟨er1, fr1, p1⟩ := hh1
        subst er1
        refine ⟨fr1.1, ?_⟩
        show zF G mX12_holdsFor (d + 7) 117 [(2, zI (((st.length : Nat) : Int) + (-1))), (4, zI (l.getD k 0)), (3, zI ((k : Nat) : Int)), (0, zR hm), (1, zI s)] [zL (qOp (l.getD k 0) (st.getD 1 0) (st.getD 0 0)), zI ((((st.length : Nat) : Int) + (-1)) - 1), zR (A 30)] σa1 _
        subst p1
        refine zF_lastore 118 dX12_holdsFor_117 rfl (zM_30 hM2).2.2 (zM_30 hM2).2.1 (by omega) (by omega) ?_
        refine zF_iinc 121 (ls' := [(3, zI (((k : Nat) : Int) + 1)), (2, zI (((st.length : Nat) : Int) + (-1))), (4, zI (l.getD k 0)), (0, zR hm), (1, zI s)]) dX12_holdsFor_118 rfl rfl rfl (by decide) rfl ?_
        refine zF_goto 4 dX12_holdsFor_121 rfl ?_
        exact zF_locs (ls' := [(3, zI (((k + 1) : Nat) : Int)), (2, zI ((((qOp (l.getD k 0) (st.getD 1 0) (st.getD 0 0)) :: st.drop 2).length : Nat) : Int)), (0, zR hm), (1, zI s)]) ⟨zlI rfl (by first | rfl | omega | (push_cast; omega) | (rw [List.length_cons, List.length_drop]; push_cast; omega) | exact congrArg (_ + ·) (zbT (by assumption)) | (rw [List.length_cons]; push_cast; omega)), zlI rfl (by first | rfl | omega | (push_cast; omega) | (rw [List.length_cons, List.length_drop]; push_cast; omega) | exact congrArg (_ + ·) (zbT (by assumption)) | (rw [List.length_cons]; push_cast; omega)), rfl, rfl, trivial⟩ (ih4 ((k + 1), ((qOp (l.getD k 0) (st.getD 1 0) (st.getD 0 0)) :: st.drop 2)) _ (by show l.length - (k + 1) < l.length - k; omega) (by
          have es : qStep (qPm N (zia σ (A 7)) s) (l.getD k 0) st = ((qOp (l.getD k 0) (st.getD 1 0) (st.getD 0 0)) :: st.drop 2) := by unfold qStep; rw [if_neg (by omega), if_neg (by omega)]
          rw [es] at hok hev
          exact ⟨by show k + 1 ≤ l.length; omega, zFr_si rfl f2, mSk_put (m := 2) hk2 (by omega) (by omega), by show ((qOp (l.getD k 0) (st.getD 1 0) (st.getD 0 0)) :: st.drop 2).length ≤ k + 1; rw [List.length_cons, List.length_drop]; omega, hok.2, hev⟩))
      · have hcv : -10 < l.getD k 0 ∧ l.getD k 0 ≤ 99999 := by omega
        refine zF_aload_n 56 dX12_holdsFor_55 rfl rfl ?_
        refine zF_getR 59 dX12_holdsFor_56 rfl gX12_81 hM2.1 hM2.2.1 (zM_30 hM2).1 ?_
        refine zF_iload_n 60 dX12_holdsFor_59 rfl rfl ?_
        refine zF_iload 62 dX12_holdsFor_60 rfl rfl ?_
        refine zF_if_lt 71 65 dX12_holdsFor_62 rfl rfl (by first | decide | assumption | exact zb_rg _ | (unfold zlcm; split; decide; split <;> decide) | (constructor <;> omega)) (fun c5 => ?_) (fun c5 => ?_)
        · have hpv := hp (-1 - l.getD k 0) (by omega) (by omega)
          rw [← hg2] at hpv
          refine zF_aload_n 72 dX12_holdsFor_71 rfl rfl ?_
          refine zF_iload_n 73 dX12_holdsFor_72 rfl rfl ?_
          refine zF_iconst 74 dX12_holdsFor_73 rfl ?_
          refine zF_iload 76 dX12_holdsFor_74 rfl rfl ?_
          refine zF_isub 77 dX12_holdsFor_76 rfl ?_
          refine zF_callVi 80 (d2 := (d + 6)) (as := [zI s, zI ((-1) - (l.getD k 0))]) dX12_holdsFor_77 rfl kX12_480 iX12_property (ci := 12) rfl eX12_property (Nat.le_refl _) hM2.1 hM2.2.1 rfl rfl (Nat.le_of_ble_eq_true rfl) (zt_X12_property (σ := σ2) hM2 hN2 hV s0 s1 (by omega) (by omega)) ?_
          refine zF_i2l 81 dX12_holdsFor_80 rfl (by first | decide | assumption | exact zb_rg _ | (unfold zlcm; split; decide; split <;> decide) | (constructor <;> omega)) ?_
          refine zF_lastore 82 dX12_holdsFor_81 rfl (zM_30 hM2).2.2 (zM_30 hM2).2.1 (by omega) (by omega) ?_
          refine zF_iinc 85 (ls' := [(2, zI (((st.length : Nat) : Int) + 1)), (4, zI (l.getD k 0)), (3, zI ((k : Nat) : Int)), (0, zR hm), (1, zI s)]) dX12_holdsFor_82 rfl rfl rfl (by decide) rfl ?_
          refine zF_goto 118 dX12_holdsFor_85 rfl ?_
          refine zF_iinc 121 (ls' := [(3, zI (((k : Nat) : Int) + 1)), (2, zI (((st.length : Nat) : Int) + 1)), (4, zI (l.getD k 0)), (0, zR hm), (1, zI s)]) dX12_holdsFor_118 rfl rfl rfl (by decide) rfl ?_
          refine zF_goto 4 dX12_holdsFor_121 rfl ?_
          exact zF_locs (ls' := [(3, zI (((k + 1) : Nat) : Int)), (2, zI ((((qPm N (zia σ2 (A 7)) s (-1 - l.getD k 0)) :: st.drop 0).length : Nat) : Int)), (0, zR hm), (1, zI s)]) ⟨zlI rfl (by first | rfl | omega | (push_cast; omega) | (rw [List.length_cons, List.length_drop]; push_cast; omega) | exact congrArg (_ + ·) (zbT (by assumption)) | (rw [List.length_cons]; push_cast; omega)), zlI rfl (by first | rfl | omega | (push_cast; omega) | (rw [List.length_cons, List.length_drop]; push_cast; omega) | exact congrArg (_ + ·) (zbT (by assumption)) | (rw [List.length_cons]; push_cast; omega)), rfl, rfl, trivial⟩ (ih4 ((k + 1), ((qPm N (zia σ2 (A 7)) s (-1 - l.getD k 0)) :: st.drop 0)) _ (by show l.length - (k + 1) < l.length - k; omega) (by
            have es : qStep (qPm N (zia σ (A 7)) s) (l.getD k 0) st = ((qPm N (zia σ2 (A 7)) s (-1 - l.getD k 0)) :: st.drop 0) := by unfold qStep; rw [if_neg (by omega), if_pos (by omega)]; first | (rw [if_pos (by omega)]; rfl) | (rw [if_neg (by omega), hg2]; rfl)
            rw [es] at hok hev
            exact ⟨by show k + 1 ≤ l.length; omega, zFr_si rfl f2, mSk_put (m := 0) hk2 (by omega) (by omega), by show ((qPm N (zia σ2 (A 7)) s (-1 - l.getD k 0)) :: st.drop 0).length ≤ k + 1; rw [List.length_cons, List.length_drop]; omega, hok.2, hev⟩))
        · refine zF_iload 67 dX12_holdsFor_65 rfl rfl ?_
          refine zF_i2l 68 dX12_holdsFor_67 rfl (by first | decide | assumption | exact zb_rg _ | (unfold zlcm; split; decide; split <;> decide) | (constructor <;> omega)) ?_
          refine zF_goto 81 dX12_holdsFor_68 rfl ?_
          refine zF_lastore 82 dX12_holdsFor_81 rfl (zM_30 hM2).2.2 (zM_30 hM2).2.1 (by omega) (by omega) ?_
          refine zF_iinc 85 (ls' := [(2, zI (((st.length : Nat) : Int) + 1)), (4, zI (l.getD k 0)), (3, zI ((k : Nat) : Int)), (0, zR hm), (1, zI s)]) dX12_holdsFor_82 rfl rfl rfl (by decide) rfl ?_
          refine zF_goto 118 dX12_holdsFor_85 rfl ?_
          refine zF_iinc 121 (ls' := [(3, zI (((k : Nat) : Int) + 1)), (2, zI (((st.length : Nat) : Int) + 1)), (4, zI (l.getD k 0)), (0, zR hm), (1, zI s)]) dX12_holdsFor_118 rfl rfl rfl (by decide) rfl ?_
          refine zF_goto 4 dX12_holdsFor_121 rfl ?_
          exact zF_locs (ls' := [(3, zI (((k + 1) : Nat) : Int)), (2, zI ((((l.getD k 0) :: st.drop 0).length : Nat) : Int)), (0, zR hm), (1, zI s)]) ⟨zlI rfl (by first | rfl | omega | (push_cast; omega) | (rw [List.length_cons, List.length_drop]; push_cast; omega) | exact congrArg (_ + ·) (zbT (by assumption)) | (rw [List.length_cons]; push_cast; omega)), zlI rfl (by first | rfl | omega | (push_cast; omega) | (rw [List.length_cons, List.length_drop]; push_cast; omega) | exact congrArg (_ + ·) (zbT (by assumption)) | (rw [List.length_cons]; push_cast; omega)), rfl, rfl, trivial⟩ (ih4 ((k + 1), ((l.getD k 0) :: st.drop 0)) _ (by show l.length - (k + 1) < l.length - k; omega) (by
            have es : qStep (qPm N (zia σ (A 7)) s) (l.getD k 0) st = ((l.getD k 0) :: st.drop 0) := by unfold qStep; rw [if_neg (by omega), if_pos (by omega)]; first | (rw [if_pos (by omega)]; rfl) | (rw [if_neg (by omega), hg2]; rfl)
            rw [es] at hok hev
            exact ⟨by show k + 1 ≤ l.length; omega, zFr_si rfl f2, mSk_put (m := 0) hk2 (by omega) (by omega), by show ((l.getD k 0) :: st.drop 0).length ≤ k + 1; rw [List.length_cons, List.length_drop]; omega, hok.2, hev⟩))
    · have hc23 : l.getD k 0 = -23 := by omega
      have hst1 : 1 ≤ st.length := by omega
      refine zF_aload_n 28 dX12_holdsFor_27 rfl rfl ?_
      refine zF_getR 31 dX12_holdsFor_28 rfl gX12_81 hM2.1 hM2.2.1 (zM_30 hM2).1 ?_
      refine zF_iload_n 32 dX12_holdsFor_31 rfl rfl ?_
      refine zF_iconst 33 dX12_holdsFor_32 rfl ?_
      refine zF_isub 34 dX12_holdsFor_33 rfl ?_
      refine zF_lconst 35 dX12_holdsFor_34 rfl ?_
      refine zF_aload_n 36 dX12_holdsFor_35 rfl rfl ?_
      refine zF_getR 39 dX12_holdsFor_36 rfl gX12_81 hM2.1 hM2.2.1 (zM_30 hM2).1 ?_
      refine zF_iload_n 40 dX12_holdsFor_39 rfl rfl ?_
      refine zF_iconst 41 dX12_holdsFor_40 rfl ?_
      refine zF_isub 42 dX12_holdsFor_41 rfl ?_
      refine zF_laload 43 dX12_holdsFor_42 rfl (zM_30 hM2).2.2 (zM_30 hM2).2.1 (by omega) (by omega) (mSk_at (i := 0) hk2 (by omega) (by omega)) ?_
      refine zF_lsub 44 dX12_holdsFor_43 rfl ?_
      refine zF_lastore 45 dX12_holdsFor_44 rfl (zM_30 hM2).2.2 (zM_30 hM2).2.1 (by omega) (by omega) ?_
      refine zF_goto 118 dX12_holdsFor_45 rfl ?_
      refine zF_iinc 121 (ls' := [(3, zI (((k : Nat) : Int) + 1)), (4, zI (l.getD k 0)), (2, zI ((st.length : Nat) : Int)), (0, zR hm), (1, zI s)]) dX12_holdsFor_118 rfl rfl rfl (by decide) rfl ?_
      refine zF_goto 4 dX12_holdsFor_121 rfl ?_
      exact zF_locs (ls' := [(3, zI (((k + 1) : Nat) : Int)), (2, zI (((((((1 : Fin 2) : Nat) : Int) - (st.getD 0 0)) :: st.drop 1).length : Nat) : Int)), (0, zR hm), (1, zI s)]) ⟨zlI rfl (by first | rfl | omega | (push_cast; omega) | (rw [List.length_cons, List.length_drop]; push_cast; omega) | exact congrArg (_ + ·) (zbT (by assumption)) | (rw [List.length_cons]; push_cast; omega)), zlI rfl (by first | rfl | omega | (push_cast; omega) | (rw [List.length_cons, List.length_drop]; push_cast; omega) | exact congrArg (_ + ·) (zbT (by assumption)) | (rw [List.length_cons]; push_cast; omega)), rfl, rfl, trivial⟩ (ih4 ((k + 1), (((((1 : Fin 2) : Nat) : Int) - (st.getD 0 0)) :: st.drop 1)) _ (by show l.length - (k + 1) < l.length - k; omega) (by
        have es : qStep (qPm N (zia σ (A 7)) s) (l.getD k 0) st = (((((1 : Fin 2) : Nat) : Int) - (st.getD 0 0)) :: st.drop 1) := by unfold qStep; rw [if_pos hc23]; rfl
        rw [es] at hok hev
        exact ⟨by show k + 1 ≤ l.length; omega, zFr_si rfl f2, mSk_put (m := 1) hk2 (by omega) (by omega), by show (((((1 : Fin 2) : Nat) : Int) - (st.getD 0 0)) :: st.drop 1).length ≤ k + 1; rw [List.length_cons, List.length_drop]; omega, hok.2, hev⟩))
end ZMH

/-! act: a screen booked or split on both sides -/
section ZQG
variable {G : zG} {d : Nat} {σ σ1 σ2 σ3 σ4 : zMem} {N N1 : Int → Int} {H : Int → Int → Int} {u T w z3 vv f h s g day : Int} {E : Nat → Nat} {n0 c : Nat} {ro : zRes}
/-- a screen's row, kept at c -/
def clK (N : Int → Int) (s : Int) (c : Nat) (σ : zMem) : Prop := zkd σ c = (1, 8) ∧ c < zn σ ∧ ∀ k, 0 ≤ k → k < 8 → zia σ c k = mS N s k
theorem clK.fr {P : Nat → Int → Prop} (k : clK N s c σ) (fr : zFr P σ σ1) (hc : ∀ j, ¬ P c j) : clK N s c σ1 := ⟨by rw [fr.2.1]; exact k.1, by rw [fr.1]; exact k.2.1, fun i i0 i1 => (fr.2.2.2.2.2 c i (hc i)).trans (k.2.2 i i0 i1)⟩
theorem clK_cl (hE : eO N σ E) (s0 : 0 ≤ s) (s1 : s < N 1) : clK N s (zn σ) (zcln σ (E (700 + s.toNat)) 8) := ⟨by rw [zkd_cl, if_pos rfl], by rw [zn_cl]; omega, fun k k0 k1 => by rw [zia_cl, if_pos rfl]; exact hE.c7 _ _ s0 s1 k0 k1⟩
theorem zGw_cl {a n : Nat} : zGw (zn σ) σ (zcln σ a n) := ⟨by rw [zn_cl]; omega, fun x hx => ⟨by rw [zkd_cl, if_neg (by omega)], fun j => ⟨by rw [zra_cl, if_neg (by omega)], by rw [zia_cl, if_neg (by omega)]⟩⟩⟩
/-- a screen's row put back: the kept one takes its place -/
theorem eO_swap (hV : mV N) (hE : eO N1 σ E) (hN : ∀ j, j < 14 + 8 * s ∨ 14 + 8 * s + 8 ≤ j → N1 j = N j) (s0 : 0 ≤ s) (s1 : s < N 1) (hu : eU E n0 c) (hz : c < zbg) (kk : clK N s c σ) : eO N (zsr σ (E 7) s (some c)) (eUp E (700 + s.toNat) c) := by
  have hn := hV.n
  obtain ⟨⟨⟨k0, l0, ff⟩, r6, r7, r8, r9, r10, inj⟩, ⟨i0, i1, i2, i3, i4, i5⟩, c6, c7, c8, c9, c10, c11⟩ := hE
  have e0 : N1 0 = N 0 := hN 0 (by omega)
  have e1 : N1 1 = N 1 := hN 1 (by omega)
  have e2 : N1 2 = N 2 := hN 2 (by omega)
  rw [e0] at r6 c6 c9 c10 i0
  rw [e1] at r7 c7 i1
  rw [e2] at r8 c8 c9 c10 i2
  have ne : ∀ (i : Nat) (j : Int), i ≠ 7 → zra (zsr σ (E 7) s (some c)) (E i) j = zra σ (E i) j := fun i j q => by rw [zra_sr, if_neg (fun z => q (inj _ _ z.1))]
  have rw' : ∀ (q m : Nat) (n : Int), q ≠ 7 → q < 100 → (∀ i : Int, 0 ≤ i → i < n → 100 * q + i.toNat ≠ 700 + s.toNat) → eRw σ E q m n → eRw (zsr σ (E 7) s (some c)) (eUp E (700 + s.toNat) c) q m n := fun q m n q7 q1 qn r i i0 i1 => by
    rw [eUp_o (show q ≠ 700 + s.toNat by omega), eUp_o (qn i i0 i1), ne q i q7]
    exact r i i0 i1
  refine ⟨⟨⟨?_, ?_, fun q t n hk => ?_⟩, rw' 6 2 _ (by decide) (by decide) (fun i a b => by omega) r6, ?_, rw' 8 10 _ (by decide) (by decide) (fun i a b => by omega) r8, rw' 9 5 _ (by decide) (by decide) (fun i a b => by omega) r9, rw' 10 6 _ (by decide) (by decide) (fun i a b => by omega) r10, eUp_inj hu hz inj⟩, ?_, ?_, ?_, ?_, ?_, ?_, ?_⟩
  · rw [eUp_o (show (0 : Nat) ≠ 700 + s.toNat by omega)]
    exact k0
  · rw [eUp_o (show (0 : Nat) ≠ 700 + s.toNat by omega)]
    exact l0
  · have k12 : q ≤ 12 := by
      have : ∀ p ∈ eF, p.1 ≤ 12 := by decide
      exact this _ hk
    rw [eUp_o (show (0 : Nat) ≠ 700 + s.toNat by omega), eUp_o (show q ≠ 700 + s.toNat by omega), ne 0 _ (by decide)]
    exact ff q t n hk
  · intro i i0 i1
    rw [eUp_o (show (7 : Nat) ≠ 700 + s.toNat by omega)]
    by_cases q : i = s
    · subst q
      rw [eUp_at, zra_sr, if_pos ⟨rfl, rfl⟩]
      exact ⟨rfl, kk.2.1, kk.1⟩
    · rw [eUp_o (show 100 * 7 + i.toNat ≠ 700 + s.toNat by omega), zra_sr, if_neg (fun z => q z.2)]
      exact r7 i i0 i1
  · rw [eUp_o (show (0 : Nat) ≠ 700 + s.toNat by omega)]
    exact ⟨i0, i1, i2, i3.trans (hN 3 (by omega)), i4.trans (hN 4 (by omega)), i5.trans (hN 5 (by omega))⟩
  · intro h k h0 h1 k0 k1
    rw [eUp_o (show 600 + h.toNat ≠ 700 + s.toNat by omega)]
    exact (c6 h k h0 h1 k0 k1).trans (hN _ (by omega))
  · intro t k t0 t1 k0 k1
    by_cases q : t = s
    · subst q
      rw [eUp_at]
      exact kk.2.2 k k0 k1
    · rw [eUp_o (show 700 + t.toNat ≠ 700 + s.toNat by omega)]
      exact (c7 t k t0 t1 k0 k1).trans (hN _ (by omega))
  · intro f k f0 f1 hk
    have hf := hV.f f f0 (by omega)
    rw [eUp_o (show 800 + f.toNat ≠ 700 + s.toNat by omega)]
    have e3 : mF N1 f 3 = mF N f 3 := hN _ (by omega)
    exact (c8 f k f0 f1 (by rw [e3]; exact hk)).trans (hN _ (by omega))
  · intro f p f0 f1 p0 p1
    rw [eUp_o (show 900 + f.toNat ≠ 700 + s.toNat by omega)]
    exact (c9 f p f0 f1 p0 p1).trans (hN _ (by omega))
  · intro h f h0 h1 f0 f1
    rw [eUp_o (show 1000 + h.toNat ≠ 700 + s.toNat by omega)]
    exact (c10 h f h0 h1 f0 f1).trans (hN _ (by omega))
  · intro k k0 k1
    rw [eUp_o (show (11 : Nat) ≠ 700 + s.toNat by omega)]
    exact (c11 k k0 k1).trans (hN _ (by omega))
/-- refused: the row that was kept stands again -/
theorem pAct_sw (hV : mV N) (a : zAE E (zn σ) σ σ1) (b : zB σ σ1 8) (e : ro = .inl (some (zI 0))) (cl : cL T (N, H, u) σ1) (o : eO N1 σ1 E) (hN : ∀ j, j < 14 + 8 * s ∨ 14 + 8 * s + 8 ≤ j → N1 j = N j) (s0 : 0 ≤ s) (s1 : s < N 1) (hU : eU E n0 (zn σ)) (hn0 : 228 ≤ n0) (hs : n0 ≤ zn σ) (hz : zn σ < zbg) (k : clK N s (zn σ) σ1) : pAct N H u T E n0 σ ro (zsr σ1 (E 7) s (some (zn σ))) :=
  ⟨0, N, eUp E (700 + s.toNat) (zn σ), e, a.tr (zAE_ge zGE.rf.sr), b, fun i => by
      unfold eUp
      split
      · exact Or.inr (Nat.le_refl _)
      · exact Or.inl rfl, eUp_o (by omega), hU.up hs k.2.1, eO_swap hV o hN s0 s1 hU hz k, Or.inl ⟨rfl, rfl, cl.ge (n := zn σ) zGE.rf.sr (by omega) (hU.ge228 hn0)⟩⟩
theorem zt_took (hE : eO N σ E) (hV : mV N) (hW : mW N) (s0 : 0 ≤ s) (s1 : s < N 1) : zP1 G mX12_took (d + 3) [zR (E 0), zI s, zI (-1)] σ (cTake N s) := by
  have hn := hV.n
  rw [← gBy_all (gOK_ex hV) s0 (by omega)]
  exact zt_X12_took hE hV hW (gOK_ex hV) s0 s1 (by decide) (by decide)
theorem en_1 (h : ¬ mEn N s f (-1) 0) : ¬ mNeed (mBook N s f (-1) 0 0) (mS N s 0) f ≤ mP N f (mS N s 0) := fun z => h ⟨z, Or.inl rfl⟩
theorem en_1' (h : mEn N s f (-1) 0) : mNeed (mBook N s f (-1) 0 0) (mS N s 0) f ≤ mP N f (mS N s 0) := h.1
theorem en_2 (h : ¬ mEn N s f g day) : ¬ (mNeed (mBook N s f g day 0) (mS N s 0) f ≤ mP N f (mS N s 0) ∧ mNeed (mBook N s f g day 0) (mS N s 0) g ≤ mP N g (mS N s 0)) := fun z => h ⟨z.1, Or.inr z.2⟩
theorem en_2' (h : mEn N s f g day) : mNeed (mBook N s f g day 0) (mS N s 0) f ≤ mP N f (mS N s 0) ∧ (g = -1 ∨ mNeed (mBook N s f g day 0) (mS N s 0) g ≤ mP N g (mS N s 0)) := h
theorem bk_g {f z n : Int} (f0 : 0 ≤ f) (f1 : f < n) (z0 : 0 ≤ z) (z1 : z < n - 1) : 0 ≤ (f + 1 + z) % n ∧ (f + 1 + z) % n < n ∧ f ≠ (f + 1 + z) % n := by
  have q1 := Int.emod_nonneg (f + 1 + z) (show n ≠ 0 by omega)
  have q2 := Int.emod_lt_of_pos (f + 1 + z) (show 0 < n by omega)
  refine ⟨q1, q2, fun q => ?_⟩
  by_cases c : f + 1 + z < n
  · rw [Int.emod_eq_of_lt (by omega) c] at q
    omega
  · rw [← Int.sub_emod_right, Int.emod_eq_of_lt (by omega) (by omega)] at q
    omega
set_option maxRecDepth 20000 in
theorem act_book2 (hGd : zGd G) (hAO : zAO G) (hL : cL T (N, H, u) σ) (hT : T ≤ 19999) (hE : eO N σ E) (hU : eU E n0 (zn σ)) (hn0 : 228 ≤ n0) (hbg : zn σ + 10 < zbg) (f0 : 0 ≤ f) (f1 : f < N 2) (s0 : 0 ≤ s) (s1 : s < N 1) (hn1 : n0 ≤ zn σ) : zF G mL_act (d + 10) 753 [(9, zI g), (8, zI 0), (7, zI s), (6, zI h), (5, zI f), (4, zI w), (3, zI z3), (0, zR (B0 0)), (1, zR (E 0)), (2, zI vv)] [] σ (pAct N H u T E n0 σ) := by
  have hK : cK T N σ := hL.K
  have hV := hK.V
  have hn := hV.n
  have hb := eB_of hV
  have hE228 := hU.ge228 hn0
  have hs228 := hL.1.1
  have hv := hV.s s s0 (by omega)
  have hw := hK.W s s0 s1
  have hcE : ∀ j, ¬ eP E (zn σ) j := fun j z => by obtain ⟨i, e⟩ := z; have := hU i; have e1 : zbg = 1000000 := rfl; omega
  have hcM : ∀ j, ¬ cMu B0 (zn σ) j := fun j z => by obtain ⟨k, e⟩ := cMu_B z; have := B0_lt k; have e1 : zbg = 1000000 := rfl; omega
  refine zF_iconst 754 dL_act_753 rfl ?_
  refine zF_iload 756 dL_act_754 rfl rfl ?_
  refine zF_bipush 758 dL_act_756 rfl (by decide) ?_
  refine zF_ishr 759 dL_act_758 rfl ?_
  refine zF_bipush 761 dL_act_759 rfl (by decide) ?_
  refine zF_callS 764 (d2 := (d + 9)) (as := [zI ((Int32.ofInt w >>> (Int32.ofInt 8 &&& 31)).toInt), zI 6]) dL_act_761 rfl kL_27 sL_most (Nat.le_refl _) rfl rfl (Nat.le_of_ble_eq_true rfl) (zE.mono (zt_L_most (by omega) (by constructor <;> omega)) fun ro σx761 hh761 => ?_)
  obtain ⟨es761, z761, er761, zl761, zu761⟩ := hh761
  replace es761 := es761.symm
  subst es761
  subst er761
  refine ⟨rfl, ?_⟩
  show zF G mL_act (d + 10) 764 [(9, zI g), (8, zI 0), (7, zI s), (6, zI h), (5, zI f), (4, zI w), (3, zI z3), (0, zR (B0 0)), (1, zR (E 0)), (2, zI vv)] [zI z761, zI 1] σ _
  refine zF_iadd 765 dL_act_764 rfl ?_
  refine zF_istore 767 (ls' := [(10, zI (1 + z761)), (9, zI g), (8, zI 0), (7, zI s), (6, zI h), (5, zI f), (4, zI w), (3, zI z3), (0, zR (B0 0)), (1, zR (E 0)), (2, zI vv)]) dL_act_765 rfl (by decide) rfl ?_
  obtain ⟨day, hday⟩ : ∃ x, x = (1 + z761) := ⟨_, rfl⟩
  rw [← hday]
  have dy0 : 1 ≤ day := by omega
  have dy1 : day < 7 := by omega
  show zF G mL_act (d + 10) 767 [(10, zI day), (9, zI g), (8, zI 0), (7, zI s), (6, zI h), (5, zI f), (4, zI w), (3, zI z3), (0, zR (B0 0)), (1, zR (E 0)), (2, zI vv)] [] σ _
  refine zF_aload_n 768 dL_act_767 rfl rfl ?_
  refine zF_getRN 771 dL_act_768 rfl gnL_52 hE.k0 hE.l0 (hE.f 7 6 10 (by decide)).1 ?_
  refine zF_iload 773 dL_act_771 rfl rfl ?_
  refine zF_aaldA 774 dL_act_773 rfl (hE.f 7 6 10 (by decide)).2.2 (hE.f 7 6 10 (by decide)).2.1 (by omega) (by omega) (hE.r7 _ (by omega) (by omega)).1 ?_
  refine zF_cloneA 777 (h := E (700 + s.toNat)) (n := 8) dL_act_774 rfl (zi6 70 rfl rfl) (hE.r7 s s0 s1).2.2 (hE.r7 s s0 s1).2.1 (by omega) (by omega) (by decide) (zwl_q (by exact (⟨trivial, trivial, trivial, trivial, trivial, trivial, trivial, trivial, zwR hL.1.bl, zwR hE.l0, trivial, trivial⟩ : _ ∧ _ ∧ _ ∧ _ ∧ _ ∧ _ ∧ _ ∧ _ ∧ _ ∧ _ ∧ _ ∧ True))) (zwl_m (by exact trivial)) ?_
  generalize hσc : zcln σ (E (700 + s.toNat)) 8 = σ774
  have gc : zGw (zn σ) σ σ774 := by rw [← hσc]; exact zGw_cl
  have kc : clK N s (zn σ) σ774 := by rw [← hσc]; exact clK_cl hE s0 s1
  have bc : zn σ774 = zn σ + 1 ∧ zcs σ774 = zcs σ + 1 ∧ zss σ774 = zss σ + 8 := by rw [← hσc]; exact ⟨rfl, rfl, rfl⟩
  clear hσc
  have hEc := hE.gw hV gc
  show zF G mL_act (d + 10) 777 [(10, zI day), (9, zI g), (8, zI 0), (7, zI s), (6, zI h), (5, zI f), (4, zI w), (3, zI z3), (0, zR (B0 0)), (1, zR (E 0)), (2, zI vv)] [zR (zn σ)] σ774 _
  refine zF_castA 780 dL_act_777 rfl (zi6 76 rfl rfl) kc.1 kc.2.1 ?_
  refine zF_astore 782 (ls' := [(11, zR (zn σ)), (10, zI day), (9, zI g), (8, zI 0), (7, zI s), (6, zI h), (5, zI f), (4, zI w), (3, zI z3), (0, zR (B0 0)), (1, zR (E 0)), (2, zI vv)]) dL_act_780 rfl (by decide) rfl ?_
  refine zF_aload 784 dL_act_782 rfl rfl ?_
  refine zF_bipush 786 dL_act_784 rfl (by decide) ?_
  refine zF_iaload 787 dL_act_786 rfl kc.1 kc.2.1 (by omega) (by omega) (kc.2.2 7 (by decide) (by decide)) ?_
  refine zF_iconst 788 dL_act_787 rfl ?_
  refine zF_icmp_ne 796 791 dL_act_788 rfl rfl (by first | decide | assumption | exact hV.b _ | exact mSh_rg hV.b _ _ | (constructor <;> omega)) (by first | decide | assumption | exact hV.b _ | exact mSh_rg hV.b _ _ | (constructor <;> omega)) (fun c1 => ?_) (fun c1 => ?_)
  · refine zF_iconst 797 dL_act_796 rfl ?_
    refine zF_istore 799 (ls' := [(12, zI 0), (11, zR (zn σ)), (10, zI day), (9, zI g), (8, zI 0), (7, zI s), (6, zI h), (5, zI f), (4, zI w), (3, zI z3), (0, zR (B0 0)), (1, zR (E 0)), (2, zI vv)]) dL_act_797 rfl (by decide) rfl ?_
    refine zF_iload 801 dL_act_799 rfl rfl ?_
    refine zF_if_ne 896 804 dL_act_801 rfl rfl (by first | decide | assumption | exact hV.b _ | exact mSh_rg hV.b _ _ | (constructor <;> omega)) (fun c2 => ?_) (fun c2 => ?_)
    · exact absurd c2 (by decide)
    · refine zF_aload_n 805 dL_act_804 rfl rfl ?_
      refine zF_iload 807 dL_act_805 rfl rfl ?_
      refine zF_iload 809 dL_act_807 rfl rfl ?_
      refine zF_iload 811 dL_act_809 rfl rfl ?_
      refine zF_if_eq 819 814 dL_act_811 rfl rfl (by first | decide | assumption | exact hV.b _ | exact mSh_rg hV.b _ _ | (constructor <;> omega)) (fun c3 => ?_) (fun c3 => ?_)
      · refine zF_iconst 820 dL_act_819 rfl ?_
        refine zF_iload 822 dL_act_820 rfl rfl ?_
        refine zF_if_eq 830 825 dL_act_822 rfl rfl (by first | decide | assumption | exact hV.b _ | exact mSh_rg hV.b _ _ | (constructor <;> omega)) (fun c4 => ?_) (fun c4 => ?_)
        · refine zF_iconst 831 dL_act_830 rfl ?_
          refine zF_iconst 832 dL_act_831 rfl ?_
          refine zF_callVN 835 (d2 := (d + 9)) (as := [zI s, zI f, zI (-1), zI 0, zI 0]) dL_act_832 rfl knL_154 iX12_book (ci := 12) rfl eX12_book (Nat.le_refl _) hEc.k0 hEc.l0 rfl rfl (Nat.le_of_ble_eq_true rfl) (by exact (⟨trivial, zwR kc.2.1, trivial, trivial, trivial, trivial, trivial, trivial, trivial, trivial, zwR (hL.ge (zGE.gw (E := E) gc) hs228 hE228).1.bl, zwR hEc.l0, trivial, trivial⟩ : _ ∧ _ ∧ _ ∧ _ ∧ _ ∧ _ ∧ _ ∧ _ ∧ _ ∧ _ ∧ _ ∧ _ ∧ _ ∧ True)) (by exact trivial) (zE.mono (zt_X12_book hEc hV s0 s1) fun ro σs832 hh832 => ⟨_, hh832.1, ?_⟩)
          obtain ⟨-, fr832, O832⟩ := hh832
          have k832 := kc.fr fr832 hcE
          have gB832 : zGE E (zn σ) σ σs832 := (zGE.gw gc).tr (zGE.fr fr832)
          have hVB : mV (mBook N s f (-1) 0 0) := mBook_V hV s0 (by omega) (by omega) (by omega) (by omega) (Or.inl rfl)
          have nb0 : (mBook N s f (-1) 0 0) 0 = N 0 := mBook_o N s0 (by omega) (by omega)
          have nb1 : (mBook N s f (-1) 0 0) 1 = N 1 := mBook_o N s0 (by omega) (by omega)
          have nb2 : (mBook N s f (-1) 0 0) 2 = N 2 := mBook_o N s0 (by omega) (by omega)
          have zNf : zrg (mNeed (mBook N s f (-1) 0 0) (mS N s 0) f) := by have q := mNeed_b hVB (mS N s 0) f 7; unfold mNeed; constructor <;> omega
          have zNg : zrg (mNeed (mBook N s f (-1) 0 0) (mS N s 0) g) := by have q := mNeed_b hVB (mS N s 0) g 7; unfold mNeed; constructor <;> omega
          have mpf := hV.p f (mS N s 0) f0 (by omega) (by omega) (by omega)
          show zF G mL_act (d + 10) 835 [(12, zI 0), (11, zR (zn σ)), (10, zI day), (9, zI g), (8, zI 0), (7, zI s), (6, zI h), (5, zI f), (4, zI w), (3, zI z3), (0, zR (B0 0)), (1, zR (E 0)), (2, zI vv)] [] σs832 _
          refine zF_aload 837 dL_act_835 rfl rfl ?_
          refine zF_iconst 838 dL_act_837 rfl ?_
          refine zF_iaload 839 dL_act_838 rfl k832.1 k832.2.1 (by omega) (by omega) (k832.2.2 0 (by decide) (by decide)) ?_
          refine zF_istore 841 (ls' := [(13, zI (mS N s 0)), (12, zI 0), (11, zR (zn σ)), (10, zI day), (9, zI g), (8, zI 0), (7, zI s), (6, zI h), (5, zI f), (4, zI w), (3, zI z3), (0, zR (B0 0)), (1, zR (E 0)), (2, zI vv)]) dL_act_839 rfl (by decide) rfl ?_
          refine zF_aload_n 842 dL_act_841 rfl rfl ?_
          refine zF_iload 844 dL_act_842 rfl rfl ?_
          refine zF_iload 846 dL_act_844 rfl rfl ?_
          refine zF_callVN 849 (d2 := (d + 9)) (as := [zI (mS N s 0), zI f]) dL_act_846 rfl knL_144 iX12_need (ci := 12) rfl eX12_need (Nat.le_refl _) O832.k0 O832.l0 rfl rfl (Nat.le_of_ble_eq_true rfl) (by exact (⟨trivial, trivial, zwR k832.2.1, trivial, trivial, trivial, trivial, trivial, trivial, trivial, trivial, zwR (hL.ge gB832 hs228 hE228).1.bl, zwR O832.l0, trivial, trivial⟩ : _ ∧ _ ∧ _ ∧ _ ∧ _ ∧ _ ∧ _ ∧ _ ∧ _ ∧ _ ∧ _ ∧ _ ∧ _ ∧ _ ∧ True)) (by exact trivial) (zE.mono (zt_X12_need (d := d + 7) (h := (mS N s 0)) (f := f) O832 hVB (by constructor <;> omega) (by constructor <;> omega)) fun ro σx846 hh846 => ⟨_, hh846.2, ?_⟩)
          obtain ⟨es846, -⟩ := hh846
          replace es846 := es846.symm
          subst es846
          show zF G mL_act (d + 10) 849 [(13, zI (mS N s 0)), (12, zI 0), (11, zR (zn σ)), (10, zI day), (9, zI g), (8, zI 0), (7, zI s), (6, zI h), (5, zI f), (4, zI w), (3, zI z3), (0, zR (B0 0)), (1, zR (E 0)), (2, zI vv)] [zI (mNeed (mBook N s f (-1) 0 0) (mS N s 0) f)] σs832 _
          refine zF_aload_n 850 dL_act_849 rfl rfl ?_
          refine zF_getRN 853 dL_act_850 rfl gnL_45 O832.k0 O832.l0 (O832.f 9 6 6 (by decide)).1 ?_
          refine zF_iload 855 dL_act_853 rfl rfl ?_
          refine zF_aaldA 856 dL_act_855 rfl (O832.f 9 6 6 (by decide)).2.2 (O832.f 9 6 6 (by decide)).2.1 (by omega) (by omega) (O832.r9 _ (by omega) (by omega)).1 ?_
          refine zF_iload 858 dL_act_856 rfl rfl ?_
          refine zF_iconst 859 dL_act_858 rfl ?_
          refine zF_iadd 860 dL_act_859 rfl ?_
          refine zF_iaload 861 dL_act_860 rfl (O832.r9 _ (by omega) (by omega)).2.2 (O832.r9 _ (by omega) (by omega)).2.1 (by omega) (by omega) (show _ = mP N f (mS N s 0) from (O832.c9 f (mS N s 0) f0 (by omega) (by omega) (by omega)).trans (mBook_o N s0 (by omega) (by omega))) ?_
          refine zF_icmp_gt 892 864 dL_act_861 rfl rfl (by first | decide | assumption | exact hV.b _ | exact mSh_rg hV.b _ _ | (constructor <;> omega)) (by first | decide | assumption | exact hV.b _ | exact mSh_rg hV.b _ _ | (constructor <;> omega)) (fun c5 => ?_) (fun c5 => ?_)
          · refine zF_bipush 894 dL_act_892 rfl (by decide) ?_
            refine zF_istore 896 (ls' := [(12, zI (-3)), (13, zI (mS N s 0)), (11, zR (zn σ)), (10, zI day), (9, zI g), (8, zI 0), (7, zI s), (6, zI h), (5, zI f), (4, zI w), (3, zI z3), (0, zR (B0 0)), (1, zR (E 0)), (2, zI vv)]) dL_act_894 rfl (by decide) rfl ?_
            refine zF_iload 898 dL_act_896 rfl rfl ?_
            refine zF_if_eq 916 901 dL_act_898 rfl rfl (by first | decide | assumption | exact hV.b _ | exact mSh_rg hV.b _ _ | (constructor <;> omega)) (fun c6 => ?_) (fun c6 => ?_)
            · refine zF_aload_n 917 dL_act_916 rfl rfl ?_
              refine zF_iload 919 dL_act_917 rfl rfl ?_
              refine zF_iload 921 dL_act_919 rfl rfl ?_
              refine zF_callV 924 (d2 := (d + 9)) (as := [zI s, zI f]) dL_act_921 rfl kL_187 iX11_book (ci := 11) rfl eX11_book (Nat.le_refl _) (hL.ge gB832 hs228 hE228).1.bk (hL.ge gB832 hs228 hE228).1.bl rfl rfl (Nat.le_of_ble_eq_true rfl) (zE.mono (pL_book (d := d) (s := s) (f := f) hGd (hL.ge gB832 hs228 hE228) s0 s1 f0 f1) fun ro σs921_3 hh921 => ?_)
              have hq921 : pNo N H u T (-3) σs832 ro σs921_3 := by rcases hh921 with ⟨q1, q⟩ | ⟨q1, q2, q⟩ | ⟨q1, q2, q⟩ <;> first | exact q | (exfalso; omega) | (exfalso; have r := en_1 q2; omega) | (exfalso; have r := en_1' q2; omega)
              obtain ⟨er921, fr921, L921⟩ := hq921
              subst er921
              refine ⟨fr921.1, ?_⟩
              have k921 := k832.fr fr921 hcM
              have O921 := O832.mu fr921 (hU.wk (by first | exact gc.1 | exact gB832.1) : eU E n0 (zn σs832)) hn0 (by first | (have q := fr832.1; omega) | omega)
              show zF G mL_act (d + 10) 924 [(12, zI (-3)), (13, zI (mS N s 0)), (11, zR (zn σ)), (10, zI day), (9, zI g), (8, zI 0), (7, zI s), (6, zI h), (5, zI f), (4, zI w), (3, zI z3), (0, zR (B0 0)), (1, zR (E 0)), (2, zI vv)] [zI (-3)] σs921_3 _
              refine zF_istore 926 (ls' := [(13, zI (-3)), (12, zI (-3)), (11, zR (zn σ)), (10, zI day), (9, zI g), (8, zI 0), (7, zI s), (6, zI h), (5, zI f), (4, zI w), (3, zI z3), (0, zR (B0 0)), (1, zR (E 0)), (2, zI vv)]) dL_act_924 rfl (by decide) rfl ?_
              refine zF_iload 928 dL_act_926 rfl rfl ?_
              refine zF_if_ne 949 931 dL_act_928 rfl rfl (by first | decide | assumption | exact hV.b _ | exact mSh_rg hV.b _ _ | (constructor <;> omega)) (fun c7 => ?_) (fun c7 => ?_)
              · refine zF_aload_n 950 dL_act_949 rfl rfl ?_
                refine zF_getRN 953 dL_act_950 rfl gnL_52 O921.k0 O921.l0 (O921.f 7 6 10 (by decide)).1 ?_
                refine zF_iload 955 dL_act_953 rfl rfl ?_
                refine zF_aload 957 dL_act_955 rfl rfl ?_
                refine zF_aastA 958 dL_act_957 rfl (O921.f 7 6 10 (by decide)).2.2 (O921.f 7 6 10 (by decide)).2.1 k921.1 k921.2.1 hAO (by omega) (by omega) ?_
                refine zF_iload 960 dL_act_958 rfl rfl ?_
                refine zF_iload 962 dL_act_960 rfl rfl ?_
                refine zF_icmp_ne 969 965 dL_act_962 rfl rfl (by first | decide | assumption | exact hV.b _ | exact mSh_rg hV.b _ _ | (constructor <;> omega)) (by first | decide | assumption | exact hV.b _ | exact mSh_rg hV.b _ _ | (constructor <;> omega)) (fun c8 => ?_) (fun c8 => ?_)
                · exact absurd c8 (by decide)
                · refine zF_iconst 966 dL_act_965 rfl ?_
                  refine zF_goto 970 dL_act_966 rfl ?_
                  exact zF_ireturn dL_act_970 rfl (pAct_sw hV ((zAE_ge (gB832)).tr (zAE_fr fr921)) (by have q1 := fr921.1; have q2 := fr921.2.2.2.1; have q3 := fr921.2.2.2.2.1; have p1 := fr832.1; have p2 := fr832.2.2.2.1; have p3 := fr832.2.2.2.2.1; unfold zB; omega) rfl L921 O921 (fun j hj => by unfold mBook; rw [if_neg (by omega), if_neg (by omega), if_neg (by omega), if_neg (by omega)]) s0 s1 hU hn0 hn1 (by omega) k921)
              · exact absurd c7 (by decide)
            · exact absurd c6 (by decide)
          · refine zF_iload 866 dL_act_864 rfl rfl ?_
            refine zF_if_eq 896 869 dL_act_866 rfl rfl (by first | decide | assumption | exact hV.b _ | exact mSh_rg hV.b _ _ | (constructor <;> omega)) (fun c9 => ?_) (fun c9 => ?_)
            · refine zF_iload 898 dL_act_896 rfl rfl ?_
              refine zF_if_eq 916 901 dL_act_898 rfl rfl (by first | decide | assumption | exact hV.b _ | exact mSh_rg hV.b _ _ | (constructor <;> omega)) (fun c10 => ?_) (fun c10 => ?_)
              · refine zF_aload_n 917 dL_act_916 rfl rfl ?_
                refine zF_iload 919 dL_act_917 rfl rfl ?_
                refine zF_iload 921 dL_act_919 rfl rfl ?_
                refine zF_callV 924 (d2 := (d + 9)) (as := [zI s, zI f]) dL_act_921 rfl kL_187 iX11_book (ci := 11) rfl eX11_book (Nat.le_refl _) (hL.ge gB832 hs228 hE228).1.bk (hL.ge gB832 hs228 hE228).1.bl rfl rfl (Nat.le_of_ble_eq_true rfl) (zE.mono (pL_book (d := d) (s := s) (f := f) hGd (hL.ge gB832 hs228 hE228) s0 s1 f0 f1) fun ro σs921_4 hh921 => ?_)
                have hq921 : pOp N H u T (mBook N s f (-1) 0 0) (cTake (mBook N s f (-1) 0 0) s) σs832 ro σs921_4 := by rcases hh921 with ⟨q1, q⟩ | ⟨q1, q2, q⟩ | ⟨q1, q2, q⟩ <;> first | exact q | (exfalso; omega) | (exfalso; have r := en_1 q2; omega) | (exfalso; have r := en_1' q2; omega)
                obtain ⟨er921, fr921, L921⟩ := hq921
                subst er921
                refine ⟨fr921.1, ?_⟩
                have k921 := k832.fr fr921 hcM
                have O921 := O832.mu fr921 (hU.wk (by first | exact gc.1 | exact gB832.1) : eU E n0 (zn σs832)) hn0 (by first | (have q := fr832.1; omega) | omega)
                show zF G mL_act (d + 10) 924 [(13, zI (mS N s 0)), (12, zI 0), (11, zR (zn σ)), (10, zI day), (9, zI g), (8, zI 0), (7, zI s), (6, zI h), (5, zI f), (4, zI w), (3, zI z3), (0, zR (B0 0)), (1, zR (E 0)), (2, zI vv)] [zI (cTake (mBook N s f (-1) 0 0) s)] σs921_4 _
                refine zF_istore 926 (ls' := [(13, zI (cTake (mBook N s f (-1) 0 0) s)), (12, zI 0), (11, zR (zn σ)), (10, zI day), (9, zI g), (8, zI 0), (7, zI s), (6, zI h), (5, zI f), (4, zI w), (3, zI z3), (0, zR (B0 0)), (1, zR (E 0)), (2, zI vv)]) dL_act_924 rfl (by decide) rfl ?_
                refine zF_iload 928 dL_act_926 rfl rfl ?_
                refine zF_if_ne 949 931 dL_act_928 rfl rfl (by first | decide | assumption | exact hV.b _ | exact mSh_rg hV.b _ _ | (constructor <;> omega)) (fun c11 => ?_) (fun c11 => ?_)
                · exact absurd c11 (by decide)
                · refine zF_iload 933 dL_act_931 rfl rfl ?_
                  refine zF_aload_n 934 dL_act_933 rfl rfl ?_
                  refine zF_iload 936 dL_act_934 rfl rfl ?_
                  refine zF_iconst 937 dL_act_936 rfl ?_
                  refine zF_callVN 940 (d2 := (d + 9)) (as := [zI s, zI (-1)]) dL_act_937 rfl knL_189 iX12_took (ci := 12) rfl eX12_took (Nat.le_refl _) O921.k0 O921.l0 rfl rfl (Nat.le_of_ble_eq_true rfl) (by exact (⟨trivial, trivial, zwR k921.2.1, trivial, trivial, trivial, trivial, trivial, trivial, trivial, trivial, zwR L921.1.bl, zwR O921.l0, trivial, trivial⟩ : _ ∧ _ ∧ _ ∧ _ ∧ _ ∧ _ ∧ _ ∧ _ ∧ _ ∧ _ ∧ _ ∧ _ ∧ _ ∧ _ ∧ True)) (by exact (⟨trivial, trivial⟩ : _ ∧ True)) (zE.mono (zt_took (d := d + 6) O921 L921.K.V L921.K.W s0 (by omega)) fun ro σx937 hh937 => ⟨_, hh937.2, ?_⟩)
                  obtain ⟨es937, -⟩ := hh937
                  replace es937 := es937.symm
                  subst es937
                  show zF G mL_act (d + 10) 940 [(13, zI (cTake (mBook N s f (-1) 0 0) s)), (12, zI 0), (11, zR (zn σ)), (10, zI day), (9, zI g), (8, zI 0), (7, zI s), (6, zI h), (5, zI f), (4, zI w), (3, zI z3), (0, zR (B0 0)), (1, zR (E 0)), (2, zI vv)] [zI (cTake (mBook N s f (-1) 0 0) s), zI (cTake (mBook N s f (-1) 0 0) s)] σs921_4 _
                  refine zF_Iw2 ?_
                  refine zF_icmp_ne 947 943 dL_act_940 rfl rfl (w32_rg _) (w32_rg _) (fun c12 => ?_) (fun c12 => ?_)
                  · refine zF_iconst 948 dL_act_947 rfl ?_
                    exact zF_ireturn dL_act_948 rfl (by exfalso; omega)
                  · refine zF_iconst 944 dL_act_943 rfl ?_
                    refine zF_goto 948 dL_act_944 rfl ?_
                    exact zF_ireturn dL_act_948 rfl (pAct_do ((zAE_ge (gB832)).tr (zAE_fr fr921)) (by have q1 := fr921.1; have q2 := fr921.2.2.2.1; have q3 := fr921.2.2.2.2.1; have p1 := fr832.1; have p2 := fr832.2.2.2.1; have p3 := fr832.2.2.2.2.1; unfold zB; omega) rfl (L921.ups (by omega)) O921 (by rw [fr921.1]; exact hU.wk gB832.1) (aTo_eq hV fun j hj => mBook_o N s0 (by omega) (by omega)))
              · exact absurd c10 (by decide)
            · exact absurd c9 (by decide)
        · exact absurd c4 (by decide)
      · exact absurd c3 (by decide)
  · refine zF_bipush 793 dL_act_791 rfl (by decide) ?_
    refine zF_goto 797 dL_act_793 rfl ?_
    refine zF_istore 799 (ls' := [(12, zI (-2)), (11, zR (zn σ)), (10, zI day), (9, zI g), (8, zI 0), (7, zI s), (6, zI h), (5, zI f), (4, zI w), (3, zI z3), (0, zR (B0 0)), (1, zR (E 0)), (2, zI vv)]) dL_act_797 rfl (by decide) rfl ?_
    refine zF_iload 801 dL_act_799 rfl rfl ?_
    refine zF_if_ne 896 804 dL_act_801 rfl rfl (by first | decide | assumption | exact hV.b _ | exact mSh_rg hV.b _ _ | (constructor <;> omega)) (fun c13 => ?_) (fun c13 => ?_)
    · refine zF_iload 898 dL_act_896 rfl rfl ?_
      refine zF_if_eq 916 901 dL_act_898 rfl rfl (by first | decide | assumption | exact hV.b _ | exact mSh_rg hV.b _ _ | (constructor <;> omega)) (fun c14 => ?_) (fun c14 => ?_)
      · refine zF_aload_n 917 dL_act_916 rfl rfl ?_
        refine zF_iload 919 dL_act_917 rfl rfl ?_
        refine zF_iload 921 dL_act_919 rfl rfl ?_
        refine zF_callV 924 (d2 := (d + 9)) (as := [zI s, zI f]) dL_act_921 rfl kL_187 iX11_book (ci := 11) rfl eX11_book (Nat.le_refl _) (hL.ge (zGE.gw (E := E) gc) hs228 hE228).1.bk (hL.ge (zGE.gw (E := E) gc) hs228 hE228).1.bl rfl rfl (Nat.le_of_ble_eq_true rfl) (zE.mono (pL_book (d := d) (s := s) (f := f) hGd (hL.ge (zGE.gw (E := E) gc) hs228 hE228) s0 s1 f0 f1) fun ro σs921_5 hh921 => ?_)
        have hq921 : pNo N H u T (-2) σ774 ro σs921_5 := by rcases hh921 with ⟨q1, q⟩ | ⟨q1, q2, q⟩ | ⟨q1, q2, q⟩ <;> first | exact q | (exfalso; omega) | (exfalso; have r := en_1 q2; omega) | (exfalso; have r := en_1' q2; omega)
        obtain ⟨er921, fr921, L921⟩ := hq921
        subst er921
        refine ⟨fr921.1, ?_⟩
        have k921 := kc.fr fr921 hcM
        have O921 := hEc.mu fr921 (hU.wk (by first | exact gc.1 | exact gB832.1) : eU E n0 (zn σ774)) hn0 (by first | (have q := fr832.1; omega) | omega)
        show zF G mL_act (d + 10) 924 [(12, zI (-2)), (11, zR (zn σ)), (10, zI day), (9, zI g), (8, zI 0), (7, zI s), (6, zI h), (5, zI f), (4, zI w), (3, zI z3), (0, zR (B0 0)), (1, zR (E 0)), (2, zI vv)] [zI (-2)] σs921_5 _
        refine zF_istore 926 (ls' := [(13, zI (-2)), (12, zI (-2)), (11, zR (zn σ)), (10, zI day), (9, zI g), (8, zI 0), (7, zI s), (6, zI h), (5, zI f), (4, zI w), (3, zI z3), (0, zR (B0 0)), (1, zR (E 0)), (2, zI vv)]) dL_act_924 rfl (by decide) rfl ?_
        refine zF_iload 928 dL_act_926 rfl rfl ?_
        refine zF_if_ne 949 931 dL_act_928 rfl rfl (by first | decide | assumption | exact hV.b _ | exact mSh_rg hV.b _ _ | (constructor <;> omega)) (fun c15 => ?_) (fun c15 => ?_)
        · refine zF_aload_n 950 dL_act_949 rfl rfl ?_
          refine zF_getRN 953 dL_act_950 rfl gnL_52 O921.k0 O921.l0 (O921.f 7 6 10 (by decide)).1 ?_
          refine zF_iload 955 dL_act_953 rfl rfl ?_
          refine zF_aload 957 dL_act_955 rfl rfl ?_
          refine zF_aastA 958 dL_act_957 rfl (O921.f 7 6 10 (by decide)).2.2 (O921.f 7 6 10 (by decide)).2.1 k921.1 k921.2.1 hAO (by omega) (by omega) ?_
          refine zF_iload 960 dL_act_958 rfl rfl ?_
          refine zF_iload 962 dL_act_960 rfl rfl ?_
          refine zF_icmp_ne 969 965 dL_act_962 rfl rfl (by first | decide | assumption | exact hV.b _ | exact mSh_rg hV.b _ _ | (constructor <;> omega)) (by first | decide | assumption | exact hV.b _ | exact mSh_rg hV.b _ _ | (constructor <;> omega)) (fun c16 => ?_) (fun c16 => ?_)
          · exact absurd c16 (by decide)
          · refine zF_iconst 966 dL_act_965 rfl ?_
            refine zF_goto 970 dL_act_966 rfl ?_
            exact zF_ireturn dL_act_970 rfl (pAct_sw hV ((zAE_ge (zGE.gw gc)).tr (zAE_fr fr921)) (by have q1 := fr921.1; have q2 := fr921.2.2.2.1; have q3 := fr921.2.2.2.2.1; unfold zB; omega) rfl L921 O921 (fun j hj => rfl) s0 s1 hU hn0 hn1 (by omega) k921)
        · exact absurd c15 (by decide)
      · exact absurd c14 (by decide)
    · exact absurd c13 (by decide)
set_option maxRecDepth 20000 in
theorem act_split2 (hGd : zGd G) (hAO : zAO G) (hL : cL T (N, H, u) σ) (hT : T ≤ 19999) (hE : eO N σ E) (hU : eU E n0 (zn σ)) (hn0 : 228 ≤ n0) (hbg : zn σ + 10 < zbg) (f0 : 0 ≤ f) (f1 : f < N 2) (s0 : 0 ≤ s) (s1 : s < N 1) (hn1 : n0 ≤ zn σ) (g0 : 0 ≤ g) (g1 : g < N 2) (fg : f ≠ g) : zF G mL_act (d + 10) 753 [(9, zI g), (8, zI 1), (7, zI s), (6, zI h), (5, zI f), (4, zI w), (3, zI z3), (0, zR (B0 0)), (1, zR (E 0)), (2, zI vv)] [] σ (pAct N H u T E n0 σ) := by
  have hK : cK T N σ := hL.K
  have hV := hK.V
  have hn := hV.n
  have hb := eB_of hV
  have hE228 := hU.ge228 hn0
  have hs228 := hL.1.1
  have hv := hV.s s s0 (by omega)
  have hw := hK.W s s0 s1
  have hcE : ∀ j, ¬ eP E (zn σ) j := fun j z => by obtain ⟨i, e⟩ := z; have := hU i; have e1 : zbg = 1000000 := rfl; omega
  have hcM : ∀ j, ¬ cMu B0 (zn σ) j := fun j z => by obtain ⟨k, e⟩ := cMu_B z; have := B0_lt k; have e1 : zbg = 1000000 := rfl; omega
  refine zF_iconst 754 dL_act_753 rfl ?_
  refine zF_iload 756 dL_act_754 rfl rfl ?_
  refine zF_bipush 758 dL_act_756 rfl (by decide) ?_
  refine zF_ishr 759 dL_act_758 rfl ?_
  refine zF_bipush 761 dL_act_759 rfl (by decide) ?_
  refine zF_callS 764 (d2 := (d + 9)) (as := [zI ((Int32.ofInt w >>> (Int32.ofInt 8 &&& 31)).toInt), zI 6]) dL_act_761 rfl kL_27 sL_most (Nat.le_refl _) rfl rfl (Nat.le_of_ble_eq_true rfl) (zE.mono (zt_L_most (by omega) (by constructor <;> omega)) fun ro σx761 hh761 => ?_)
  obtain ⟨es761, z761, er761, zl761, zu761⟩ := hh761
  replace es761 := es761.symm
  subst es761
  subst er761
  refine ⟨rfl, ?_⟩
  show zF G mL_act (d + 10) 764 [(9, zI g), (8, zI 1), (7, zI s), (6, zI h), (5, zI f), (4, zI w), (3, zI z3), (0, zR (B0 0)), (1, zR (E 0)), (2, zI vv)] [zI z761, zI 1] σ _
  refine zF_iadd 765 dL_act_764 rfl ?_
  refine zF_istore 767 (ls' := [(10, zI (1 + z761)), (9, zI g), (8, zI 1), (7, zI s), (6, zI h), (5, zI f), (4, zI w), (3, zI z3), (0, zR (B0 0)), (1, zR (E 0)), (2, zI vv)]) dL_act_765 rfl (by decide) rfl ?_
  obtain ⟨day, hday⟩ : ∃ x, x = (1 + z761) := ⟨_, rfl⟩
  rw [← hday]
  have dy0 : 1 ≤ day := by omega
  have dy1 : day < 7 := by omega
  show zF G mL_act (d + 10) 767 [(10, zI day), (9, zI g), (8, zI 1), (7, zI s), (6, zI h), (5, zI f), (4, zI w), (3, zI z3), (0, zR (B0 0)), (1, zR (E 0)), (2, zI vv)] [] σ _
  refine zF_aload_n 768 dL_act_767 rfl rfl ?_
  refine zF_getRN 771 dL_act_768 rfl gnL_52 hE.k0 hE.l0 (hE.f 7 6 10 (by decide)).1 ?_
  refine zF_iload 773 dL_act_771 rfl rfl ?_
  refine zF_aaldA 774 dL_act_773 rfl (hE.f 7 6 10 (by decide)).2.2 (hE.f 7 6 10 (by decide)).2.1 (by omega) (by omega) (hE.r7 _ (by omega) (by omega)).1 ?_
  refine zF_cloneA 777 (h := E (700 + s.toNat)) (n := 8) dL_act_774 rfl (zi6 70 rfl rfl) (hE.r7 s s0 s1).2.2 (hE.r7 s s0 s1).2.1 (by omega) (by omega) (by decide) (zwl_q (by exact (⟨trivial, trivial, trivial, trivial, trivial, trivial, trivial, trivial, zwR hL.1.bl, zwR hE.l0, trivial, trivial⟩ : _ ∧ _ ∧ _ ∧ _ ∧ _ ∧ _ ∧ _ ∧ _ ∧ _ ∧ _ ∧ _ ∧ True))) (zwl_m (by exact trivial)) ?_
  generalize hσc : zcln σ (E (700 + s.toNat)) 8 = σ774
  have gc : zGw (zn σ) σ σ774 := by rw [← hσc]; exact zGw_cl
  have kc : clK N s (zn σ) σ774 := by rw [← hσc]; exact clK_cl hE s0 s1
  have bc : zn σ774 = zn σ + 1 ∧ zcs σ774 = zcs σ + 1 ∧ zss σ774 = zss σ + 8 := by rw [← hσc]; exact ⟨rfl, rfl, rfl⟩
  clear hσc
  have hEc := hE.gw hV gc
  show zF G mL_act (d + 10) 777 [(10, zI day), (9, zI g), (8, zI 1), (7, zI s), (6, zI h), (5, zI f), (4, zI w), (3, zI z3), (0, zR (B0 0)), (1, zR (E 0)), (2, zI vv)] [zR (zn σ)] σ774 _
  refine zF_castA 780 dL_act_777 rfl (zi6 76 rfl rfl) kc.1 kc.2.1 ?_
  refine zF_astore 782 (ls' := [(11, zR (zn σ)), (10, zI day), (9, zI g), (8, zI 1), (7, zI s), (6, zI h), (5, zI f), (4, zI w), (3, zI z3), (0, zR (B0 0)), (1, zR (E 0)), (2, zI vv)]) dL_act_780 rfl (by decide) rfl ?_
  refine zF_aload 784 dL_act_782 rfl rfl ?_
  refine zF_bipush 786 dL_act_784 rfl (by decide) ?_
  refine zF_iaload 787 dL_act_786 rfl kc.1 kc.2.1 (by omega) (by omega) (kc.2.2 7 (by decide) (by decide)) ?_
  refine zF_iconst 788 dL_act_787 rfl ?_
  refine zF_icmp_ne 796 791 dL_act_788 rfl rfl (by first | decide | assumption | exact hV.b _ | exact mSh_rg hV.b _ _ | (constructor <;> omega)) (by first | decide | assumption | exact hV.b _ | exact mSh_rg hV.b _ _ | (constructor <;> omega)) (fun c1 => ?_) (fun c1 => ?_)
  · refine zF_iconst 797 dL_act_796 rfl ?_
    refine zF_istore 799 (ls' := [(12, zI 0), (11, zR (zn σ)), (10, zI day), (9, zI g), (8, zI 1), (7, zI s), (6, zI h), (5, zI f), (4, zI w), (3, zI z3), (0, zR (B0 0)), (1, zR (E 0)), (2, zI vv)]) dL_act_797 rfl (by decide) rfl ?_
    refine zF_iload 801 dL_act_799 rfl rfl ?_
    refine zF_if_ne 896 804 dL_act_801 rfl rfl (by first | decide | assumption | exact hV.b _ | exact mSh_rg hV.b _ _ | (constructor <;> omega)) (fun c2 => ?_) (fun c2 => ?_)
    · exact absurd c2 (by decide)
    · refine zF_aload_n 805 dL_act_804 rfl rfl ?_
      refine zF_iload 807 dL_act_805 rfl rfl ?_
      refine zF_iload 809 dL_act_807 rfl rfl ?_
      refine zF_iload 811 dL_act_809 rfl rfl ?_
      refine zF_if_eq 819 814 dL_act_811 rfl rfl (by first | decide | assumption | exact hV.b _ | exact mSh_rg hV.b _ _ | (constructor <;> omega)) (fun c3 => ?_) (fun c3 => ?_)
      · exact absurd c3 (by decide)
      · refine zF_iload 816 dL_act_814 rfl rfl ?_
        refine zF_goto 820 dL_act_816 rfl ?_
        refine zF_iload 822 dL_act_820 rfl rfl ?_
        refine zF_if_eq 830 825 dL_act_822 rfl rfl (by first | decide | assumption | exact hV.b _ | exact mSh_rg hV.b _ _ | (constructor <;> omega)) (fun c4 => ?_) (fun c4 => ?_)
        · exact absurd c4 (by decide)
        · refine zF_iload 827 dL_act_825 rfl rfl ?_
          refine zF_goto 831 dL_act_827 rfl ?_
          refine zF_iconst 832 dL_act_831 rfl ?_
          refine zF_callVN 835 (d2 := (d + 9)) (as := [zI s, zI f, zI g, zI day, zI 0]) dL_act_832 rfl knL_154 iX12_book (ci := 12) rfl eX12_book (Nat.le_refl _) hEc.k0 hEc.l0 rfl rfl (Nat.le_of_ble_eq_true rfl) (by exact (⟨trivial, zwR kc.2.1, trivial, trivial, trivial, trivial, trivial, trivial, trivial, trivial, zwR (hL.ge (zGE.gw (E := E) gc) hs228 hE228).1.bl, zwR hEc.l0, trivial, trivial⟩ : _ ∧ _ ∧ _ ∧ _ ∧ _ ∧ _ ∧ _ ∧ _ ∧ _ ∧ _ ∧ _ ∧ _ ∧ _ ∧ True)) (by exact trivial) (zE.mono (zt_X12_book hEc hV s0 s1) fun ro σs832 hh832 => ⟨_, hh832.1, ?_⟩)
          obtain ⟨-, fr832, O832⟩ := hh832
          have k832 := kc.fr fr832 hcE
          have gB832 : zGE E (zn σ) σ σs832 := (zGE.gw gc).tr (zGE.fr fr832)
          have hVB : mV (mBook N s f g day 0) := mBook_V hV s0 (by omega) (by omega) (by omega) (by omega) (Or.inl rfl)
          have nb0 : (mBook N s f g day 0) 0 = N 0 := mBook_o N s0 (by omega) (by omega)
          have nb1 : (mBook N s f g day 0) 1 = N 1 := mBook_o N s0 (by omega) (by omega)
          have nb2 : (mBook N s f g day 0) 2 = N 2 := mBook_o N s0 (by omega) (by omega)
          have zNf : zrg (mNeed (mBook N s f g day 0) (mS N s 0) f) := by have q := mNeed_b hVB (mS N s 0) f 7; unfold mNeed; constructor <;> omega
          have zNg : zrg (mNeed (mBook N s f g day 0) (mS N s 0) g) := by have q := mNeed_b hVB (mS N s 0) g 7; unfold mNeed; constructor <;> omega
          have mpf := hV.p f (mS N s 0) f0 (by omega) (by omega) (by omega)
          have mpg := hV.p g (mS N s 0) g0 (by omega) (by omega) (by omega)
          show zF G mL_act (d + 10) 835 [(12, zI 0), (11, zR (zn σ)), (10, zI day), (9, zI g), (8, zI 1), (7, zI s), (6, zI h), (5, zI f), (4, zI w), (3, zI z3), (0, zR (B0 0)), (1, zR (E 0)), (2, zI vv)] [] σs832 _
          refine zF_aload 837 dL_act_835 rfl rfl ?_
          refine zF_iconst 838 dL_act_837 rfl ?_
          refine zF_iaload 839 dL_act_838 rfl k832.1 k832.2.1 (by omega) (by omega) (k832.2.2 0 (by decide) (by decide)) ?_
          refine zF_istore 841 (ls' := [(13, zI (mS N s 0)), (12, zI 0), (11, zR (zn σ)), (10, zI day), (9, zI g), (8, zI 1), (7, zI s), (6, zI h), (5, zI f), (4, zI w), (3, zI z3), (0, zR (B0 0)), (1, zR (E 0)), (2, zI vv)]) dL_act_839 rfl (by decide) rfl ?_
          refine zF_aload_n 842 dL_act_841 rfl rfl ?_
          refine zF_iload 844 dL_act_842 rfl rfl ?_
          refine zF_iload 846 dL_act_844 rfl rfl ?_
          refine zF_callVN 849 (d2 := (d + 9)) (as := [zI (mS N s 0), zI f]) dL_act_846 rfl knL_144 iX12_need (ci := 12) rfl eX12_need (Nat.le_refl _) O832.k0 O832.l0 rfl rfl (Nat.le_of_ble_eq_true rfl) (by exact (⟨trivial, trivial, zwR k832.2.1, trivial, trivial, trivial, trivial, trivial, trivial, trivial, trivial, zwR (hL.ge gB832 hs228 hE228).1.bl, zwR O832.l0, trivial, trivial⟩ : _ ∧ _ ∧ _ ∧ _ ∧ _ ∧ _ ∧ _ ∧ _ ∧ _ ∧ _ ∧ _ ∧ _ ∧ _ ∧ _ ∧ True)) (by exact trivial) (zE.mono (zt_X12_need (d := d + 7) (h := (mS N s 0)) (f := f) O832 hVB (by constructor <;> omega) (by constructor <;> omega)) fun ro σx846 hh846 => ⟨_, hh846.2, ?_⟩)
          obtain ⟨es846, -⟩ := hh846
          replace es846 := es846.symm
          subst es846
          show zF G mL_act (d + 10) 849 [(13, zI (mS N s 0)), (12, zI 0), (11, zR (zn σ)), (10, zI day), (9, zI g), (8, zI 1), (7, zI s), (6, zI h), (5, zI f), (4, zI w), (3, zI z3), (0, zR (B0 0)), (1, zR (E 0)), (2, zI vv)] [zI (mNeed (mBook N s f g day 0) (mS N s 0) f)] σs832 _
          refine zF_aload_n 850 dL_act_849 rfl rfl ?_
          refine zF_getRN 853 dL_act_850 rfl gnL_45 O832.k0 O832.l0 (O832.f 9 6 6 (by decide)).1 ?_
          refine zF_iload 855 dL_act_853 rfl rfl ?_
          refine zF_aaldA 856 dL_act_855 rfl (O832.f 9 6 6 (by decide)).2.2 (O832.f 9 6 6 (by decide)).2.1 (by omega) (by omega) (O832.r9 _ (by omega) (by omega)).1 ?_
          refine zF_iload 858 dL_act_856 rfl rfl ?_
          refine zF_iconst 859 dL_act_858 rfl ?_
          refine zF_iadd 860 dL_act_859 rfl ?_
          refine zF_iaload 861 dL_act_860 rfl (O832.r9 _ (by omega) (by omega)).2.2 (O832.r9 _ (by omega) (by omega)).2.1 (by omega) (by omega) (show _ = mP N f (mS N s 0) from (O832.c9 f (mS N s 0) f0 (by omega) (by omega) (by omega)).trans (mBook_o N s0 (by omega) (by omega))) ?_
          refine zF_icmp_gt 892 864 dL_act_861 rfl rfl (by first | decide | assumption | exact hV.b _ | exact mSh_rg hV.b _ _ | (constructor <;> omega)) (by first | decide | assumption | exact hV.b _ | exact mSh_rg hV.b _ _ | (constructor <;> omega)) (fun c5 => ?_) (fun c5 => ?_)
          · refine zF_bipush 894 dL_act_892 rfl (by decide) ?_
            refine zF_istore 896 (ls' := [(12, zI (-3)), (13, zI (mS N s 0)), (11, zR (zn σ)), (10, zI day), (9, zI g), (8, zI 1), (7, zI s), (6, zI h), (5, zI f), (4, zI w), (3, zI z3), (0, zR (B0 0)), (1, zR (E 0)), (2, zI vv)]) dL_act_894 rfl (by decide) rfl ?_
            refine zF_iload 898 dL_act_896 rfl rfl ?_
            refine zF_if_eq 916 901 dL_act_898 rfl rfl (by first | decide | assumption | exact hV.b _ | exact mSh_rg hV.b _ _ | (constructor <;> omega)) (fun c6 => ?_) (fun c6 => ?_)
            · exact absurd c6 (by decide)
            · refine zF_aload_n 902 dL_act_901 rfl rfl ?_
              refine zF_iload 904 dL_act_902 rfl rfl ?_
              refine zF_iload 906 dL_act_904 rfl rfl ?_
              refine zF_iload 908 dL_act_906 rfl rfl ?_
              refine zF_iload 910 dL_act_908 rfl rfl ?_
              refine zF_callV 913 (d2 := (d + 9)) (as := [zI s, zI f, zI g, zI day]) dL_act_910 rfl kL_183 iX11_split (ci := 11) rfl eX11_split (Nat.le_refl _) (hL.ge gB832 hs228 hE228).1.bk (hL.ge gB832 hs228 hE228).1.bl rfl rfl (Nat.le_of_ble_eq_true rfl) (zE.mono (pL_split (d := d) (s := s) (a := f) (b := g) (c := day) hGd (hL.ge gB832 hs228 hE228) s0 s1 f0 f1 g0 g1 fg dy0 dy1) fun ro σs910_6 hh910 => ?_)
              have hq910 : pNo N H u T (-3) σs832 ro σs910_6 := by rcases hh910 with ⟨q1, q⟩ | ⟨q1, q2, q⟩ | ⟨q1, q2, q⟩ <;> first | exact q | (exfalso; omega) | (exfalso; have r := en_2 q2; omega) | (exfalso; have r := en_2' q2; omega)
              obtain ⟨er910, fr910, L910⟩ := hq910
              subst er910
              refine ⟨fr910.1, ?_⟩
              have k910 := k832.fr fr910 hcM
              have O910 := O832.mu fr910 (hU.wk (by first | exact gc.1 | exact gB832.1) : eU E n0 (zn σs832)) hn0 (by first | (have q := fr832.1; omega) | omega)
              show zF G mL_act (d + 10) 913 [(12, zI (-3)), (13, zI (mS N s 0)), (11, zR (zn σ)), (10, zI day), (9, zI g), (8, zI 1), (7, zI s), (6, zI h), (5, zI f), (4, zI w), (3, zI z3), (0, zR (B0 0)), (1, zR (E 0)), (2, zI vv)] [zI (-3)] σs910_6 _
              refine zF_goto 924 dL_act_913 rfl ?_
              refine zF_istore 926 (ls' := [(13, zI (-3)), (12, zI (-3)), (11, zR (zn σ)), (10, zI day), (9, zI g), (8, zI 1), (7, zI s), (6, zI h), (5, zI f), (4, zI w), (3, zI z3), (0, zR (B0 0)), (1, zR (E 0)), (2, zI vv)]) dL_act_924 rfl (by decide) rfl ?_
              refine zF_iload 928 dL_act_926 rfl rfl ?_
              refine zF_if_ne 949 931 dL_act_928 rfl rfl (by first | decide | assumption | exact hV.b _ | exact mSh_rg hV.b _ _ | (constructor <;> omega)) (fun c7 => ?_) (fun c7 => ?_)
              · refine zF_aload_n 950 dL_act_949 rfl rfl ?_
                refine zF_getRN 953 dL_act_950 rfl gnL_52 O910.k0 O910.l0 (O910.f 7 6 10 (by decide)).1 ?_
                refine zF_iload 955 dL_act_953 rfl rfl ?_
                refine zF_aload 957 dL_act_955 rfl rfl ?_
                refine zF_aastA 958 dL_act_957 rfl (O910.f 7 6 10 (by decide)).2.2 (O910.f 7 6 10 (by decide)).2.1 k910.1 k910.2.1 hAO (by omega) (by omega) ?_
                refine zF_iload 960 dL_act_958 rfl rfl ?_
                refine zF_iload 962 dL_act_960 rfl rfl ?_
                refine zF_icmp_ne 969 965 dL_act_962 rfl rfl (by first | decide | assumption | exact hV.b _ | exact mSh_rg hV.b _ _ | (constructor <;> omega)) (by first | decide | assumption | exact hV.b _ | exact mSh_rg hV.b _ _ | (constructor <;> omega)) (fun c8 => ?_) (fun c8 => ?_)
                · exact absurd c8 (by decide)
                · refine zF_iconst 966 dL_act_965 rfl ?_
                  refine zF_goto 970 dL_act_966 rfl ?_
                  exact zF_ireturn dL_act_970 rfl (pAct_sw hV ((zAE_ge (gB832)).tr (zAE_fr fr910)) (by have q1 := fr910.1; have q2 := fr910.2.2.2.1; have q3 := fr910.2.2.2.2.1; have p1 := fr832.1; have p2 := fr832.2.2.2.1; have p3 := fr832.2.2.2.2.1; unfold zB; omega) rfl L910 O910 (fun j hj => by unfold mBook; rw [if_neg (by omega), if_neg (by omega), if_neg (by omega), if_neg (by omega)]) s0 s1 hU hn0 hn1 (by omega) k910)
              · exact absurd c7 (by decide)
          · refine zF_iload 866 dL_act_864 rfl rfl ?_
            refine zF_if_eq 896 869 dL_act_866 rfl rfl (by first | decide | assumption | exact hV.b _ | exact mSh_rg hV.b _ _ | (constructor <;> omega)) (fun c9 => ?_) (fun c9 => ?_)
            · exact absurd c9 (by decide)
            · refine zF_aload_n 870 dL_act_869 rfl rfl ?_
              refine zF_iload 872 dL_act_870 rfl rfl ?_
              refine zF_iload 874 dL_act_872 rfl rfl ?_
              refine zF_callVN 877 (d2 := (d + 9)) (as := [zI (mS N s 0), zI g]) dL_act_874 rfl knL_144 iX12_need (ci := 12) rfl eX12_need (Nat.le_refl _) O832.k0 O832.l0 rfl rfl (Nat.le_of_ble_eq_true rfl) (by exact (⟨trivial, trivial, zwR k832.2.1, trivial, trivial, trivial, trivial, trivial, trivial, trivial, trivial, zwR (hL.ge gB832 hs228 hE228).1.bl, zwR O832.l0, trivial, trivial⟩ : _ ∧ _ ∧ _ ∧ _ ∧ _ ∧ _ ∧ _ ∧ _ ∧ _ ∧ _ ∧ _ ∧ _ ∧ _ ∧ _ ∧ True)) (by exact trivial) (zE.mono (zt_X12_need (d := d + 7) (h := (mS N s 0)) (f := g) O832 hVB (by constructor <;> omega) (by constructor <;> omega)) fun ro σx874 hh874 => ⟨_, hh874.2, ?_⟩)
              obtain ⟨es874, -⟩ := hh874
              replace es874 := es874.symm
              subst es874
              show zF G mL_act (d + 10) 877 [(13, zI (mS N s 0)), (12, zI 0), (11, zR (zn σ)), (10, zI day), (9, zI g), (8, zI 1), (7, zI s), (6, zI h), (5, zI f), (4, zI w), (3, zI z3), (0, zR (B0 0)), (1, zR (E 0)), (2, zI vv)] [zI (mNeed (mBook N s f g day 0) (mS N s 0) g)] σs832 _
              refine zF_aload_n 878 dL_act_877 rfl rfl ?_
              refine zF_getRN 881 dL_act_878 rfl gnL_45 O832.k0 O832.l0 (O832.f 9 6 6 (by decide)).1 ?_
              refine zF_iload 883 dL_act_881 rfl rfl ?_
              refine zF_aaldA 884 dL_act_883 rfl (O832.f 9 6 6 (by decide)).2.2 (O832.f 9 6 6 (by decide)).2.1 (by omega) (by omega) (O832.r9 _ (by omega) (by omega)).1 ?_
              refine zF_iload 886 dL_act_884 rfl rfl ?_
              refine zF_iconst 887 dL_act_886 rfl ?_
              refine zF_iadd 888 dL_act_887 rfl ?_
              refine zF_iaload 889 dL_act_888 rfl (O832.r9 _ (by omega) (by omega)).2.2 (O832.r9 _ (by omega) (by omega)).2.1 (by omega) (by omega) (show _ = mP N g (mS N s 0) from (O832.c9 g (mS N s 0) g0 (by omega) (by omega) (by omega)).trans (mBook_o N s0 (by omega) (by omega))) ?_
              refine zF_icmp_le 896 892 dL_act_889 rfl rfl (by first | decide | assumption | exact hV.b _ | exact mSh_rg hV.b _ _ | (constructor <;> omega)) (by first | decide | assumption | exact hV.b _ | exact mSh_rg hV.b _ _ | (constructor <;> omega)) (fun c10 => ?_) (fun c10 => ?_)
              · refine zF_iload 898 dL_act_896 rfl rfl ?_
                refine zF_if_eq 916 901 dL_act_898 rfl rfl (by first | decide | assumption | exact hV.b _ | exact mSh_rg hV.b _ _ | (constructor <;> omega)) (fun c11 => ?_) (fun c11 => ?_)
                · exact absurd c11 (by decide)
                · refine zF_aload_n 902 dL_act_901 rfl rfl ?_
                  refine zF_iload 904 dL_act_902 rfl rfl ?_
                  refine zF_iload 906 dL_act_904 rfl rfl ?_
                  refine zF_iload 908 dL_act_906 rfl rfl ?_
                  refine zF_iload 910 dL_act_908 rfl rfl ?_
                  refine zF_callV 913 (d2 := (d + 9)) (as := [zI s, zI f, zI g, zI day]) dL_act_910 rfl kL_183 iX11_split (ci := 11) rfl eX11_split (Nat.le_refl _) (hL.ge gB832 hs228 hE228).1.bk (hL.ge gB832 hs228 hE228).1.bl rfl rfl (Nat.le_of_ble_eq_true rfl) (zE.mono (pL_split (d := d) (s := s) (a := f) (b := g) (c := day) hGd (hL.ge gB832 hs228 hE228) s0 s1 f0 f1 g0 g1 fg dy0 dy1) fun ro σs910_7 hh910 => ?_)
                  have hq910 : pOp N H u T (mBook N s f g day 0) (cTake (mBook N s f g day 0) s) σs832 ro σs910_7 := by rcases hh910 with ⟨q1, q⟩ | ⟨q1, q2, q⟩ | ⟨q1, q2, q⟩ <;> first | exact q | (exfalso; omega) | (exfalso; have r := en_2 q2; omega) | (exfalso; have r := en_2' q2; omega)
                  obtain ⟨er910, fr910, L910⟩ := hq910
                  subst er910
                  refine ⟨fr910.1, ?_⟩
                  have k910 := k832.fr fr910 hcM
                  have O910 := O832.mu fr910 (hU.wk (by first | exact gc.1 | exact gB832.1) : eU E n0 (zn σs832)) hn0 (by first | (have q := fr832.1; omega) | omega)
                  show zF G mL_act (d + 10) 913 [(13, zI (mS N s 0)), (12, zI 0), (11, zR (zn σ)), (10, zI day), (9, zI g), (8, zI 1), (7, zI s), (6, zI h), (5, zI f), (4, zI w), (3, zI z3), (0, zR (B0 0)), (1, zR (E 0)), (2, zI vv)] [zI (cTake (mBook N s f g day 0) s)] σs910_7 _
                  refine zF_goto 924 dL_act_913 rfl ?_
                  refine zF_istore 926 (ls' := [(13, zI (cTake (mBook N s f g day 0) s)), (12, zI 0), (11, zR (zn σ)), (10, zI day), (9, zI g), (8, zI 1), (7, zI s), (6, zI h), (5, zI f), (4, zI w), (3, zI z3), (0, zR (B0 0)), (1, zR (E 0)), (2, zI vv)]) dL_act_924 rfl (by decide) rfl ?_
                  refine zF_iload 928 dL_act_926 rfl rfl ?_
                  refine zF_if_ne 949 931 dL_act_928 rfl rfl (by first | decide | assumption | exact hV.b _ | exact mSh_rg hV.b _ _ | (constructor <;> omega)) (fun c12 => ?_) (fun c12 => ?_)
                  · exact absurd c12 (by decide)
                  · refine zF_iload 933 dL_act_931 rfl rfl ?_
                    refine zF_aload_n 934 dL_act_933 rfl rfl ?_
                    refine zF_iload 936 dL_act_934 rfl rfl ?_
                    refine zF_iconst 937 dL_act_936 rfl ?_
                    refine zF_callVN 940 (d2 := (d + 9)) (as := [zI s, zI (-1)]) dL_act_937 rfl knL_189 iX12_took (ci := 12) rfl eX12_took (Nat.le_refl _) O910.k0 O910.l0 rfl rfl (Nat.le_of_ble_eq_true rfl) (by exact (⟨trivial, trivial, zwR k910.2.1, trivial, trivial, trivial, trivial, trivial, trivial, trivial, trivial, zwR L910.1.bl, zwR O910.l0, trivial, trivial⟩ : _ ∧ _ ∧ _ ∧ _ ∧ _ ∧ _ ∧ _ ∧ _ ∧ _ ∧ _ ∧ _ ∧ _ ∧ _ ∧ _ ∧ True)) (by exact (⟨trivial, trivial⟩ : _ ∧ True)) (zE.mono (zt_took (d := d + 6) O910 L910.K.V L910.K.W s0 (by omega)) fun ro σx937 hh937 => ⟨_, hh937.2, ?_⟩)
                    obtain ⟨es937, -⟩ := hh937
                    replace es937 := es937.symm
                    subst es937
                    show zF G mL_act (d + 10) 940 [(13, zI (cTake (mBook N s f g day 0) s)), (12, zI 0), (11, zR (zn σ)), (10, zI day), (9, zI g), (8, zI 1), (7, zI s), (6, zI h), (5, zI f), (4, zI w), (3, zI z3), (0, zR (B0 0)), (1, zR (E 0)), (2, zI vv)] [zI (cTake (mBook N s f g day 0) s), zI (cTake (mBook N s f g day 0) s)] σs910_7 _
                    refine zF_Iw2 ?_
                    refine zF_icmp_ne 947 943 dL_act_940 rfl rfl (w32_rg _) (w32_rg _) (fun c13 => ?_) (fun c13 => ?_)
                    · refine zF_iconst 948 dL_act_947 rfl ?_
                      exact zF_ireturn dL_act_948 rfl (by exfalso; omega)
                    · refine zF_iconst 944 dL_act_943 rfl ?_
                      refine zF_goto 948 dL_act_944 rfl ?_
                      exact zF_ireturn dL_act_948 rfl (pAct_do ((zAE_ge (gB832)).tr (zAE_fr fr910)) (by have q1 := fr910.1; have q2 := fr910.2.2.2.1; have q3 := fr910.2.2.2.2.1; have p1 := fr832.1; have p2 := fr832.2.2.2.1; have p3 := fr832.2.2.2.2.1; unfold zB; omega) rfl (L910.ups (by omega)) O910 (by rw [fr910.1]; exact hU.wk gB832.1) (aTo_eq hV fun j hj => mBook_o N s0 (by omega) (by omega)))
              · refine zF_bipush 894 dL_act_892 rfl (by decide) ?_
                refine zF_istore 896 (ls' := [(12, zI (-3)), (13, zI (mS N s 0)), (11, zR (zn σ)), (10, zI day), (9, zI g), (8, zI 1), (7, zI s), (6, zI h), (5, zI f), (4, zI w), (3, zI z3), (0, zR (B0 0)), (1, zR (E 0)), (2, zI vv)]) dL_act_894 rfl (by decide) rfl ?_
                refine zF_iload 898 dL_act_896 rfl rfl ?_
                refine zF_if_eq 916 901 dL_act_898 rfl rfl (by first | decide | assumption | exact hV.b _ | exact mSh_rg hV.b _ _ | (constructor <;> omega)) (fun c14 => ?_) (fun c14 => ?_)
                · exact absurd c14 (by decide)
                · refine zF_aload_n 902 dL_act_901 rfl rfl ?_
                  refine zF_iload 904 dL_act_902 rfl rfl ?_
                  refine zF_iload 906 dL_act_904 rfl rfl ?_
                  refine zF_iload 908 dL_act_906 rfl rfl ?_
                  refine zF_iload 910 dL_act_908 rfl rfl ?_
                  refine zF_callV 913 (d2 := (d + 9)) (as := [zI s, zI f, zI g, zI day]) dL_act_910 rfl kL_183 iX11_split (ci := 11) rfl eX11_split (Nat.le_refl _) (hL.ge gB832 hs228 hE228).1.bk (hL.ge gB832 hs228 hE228).1.bl rfl rfl (Nat.le_of_ble_eq_true rfl) (zE.mono (pL_split (d := d) (s := s) (a := f) (b := g) (c := day) hGd (hL.ge gB832 hs228 hE228) s0 s1 f0 f1 g0 g1 fg dy0 dy1) fun ro σs910_8 hh910 => ?_)
                  have hq910 : pNo N H u T (-3) σs832 ro σs910_8 := by rcases hh910 with ⟨q1, q⟩ | ⟨q1, q2, q⟩ | ⟨q1, q2, q⟩ <;> first | exact q | (exfalso; omega) | (exfalso; have r := en_2 q2; omega) | (exfalso; have r := en_2' q2; omega)
                  obtain ⟨er910, fr910, L910⟩ := hq910
                  subst er910
                  refine ⟨fr910.1, ?_⟩
                  have k910 := k832.fr fr910 hcM
                  have O910 := O832.mu fr910 (hU.wk (by first | exact gc.1 | exact gB832.1) : eU E n0 (zn σs832)) hn0 (by first | (have q := fr832.1; omega) | omega)
                  show zF G mL_act (d + 10) 913 [(12, zI (-3)), (13, zI (mS N s 0)), (11, zR (zn σ)), (10, zI day), (9, zI g), (8, zI 1), (7, zI s), (6, zI h), (5, zI f), (4, zI w), (3, zI z3), (0, zR (B0 0)), (1, zR (E 0)), (2, zI vv)] [zI (-3)] σs910_8 _
                  refine zF_goto 924 dL_act_913 rfl ?_
                  refine zF_istore 926 (ls' := [(13, zI (-3)), (12, zI (-3)), (11, zR (zn σ)), (10, zI day), (9, zI g), (8, zI 1), (7, zI s), (6, zI h), (5, zI f), (4, zI w), (3, zI z3), (0, zR (B0 0)), (1, zR (E 0)), (2, zI vv)]) dL_act_924 rfl (by decide) rfl ?_
                  refine zF_iload 928 dL_act_926 rfl rfl ?_
                  refine zF_if_ne 949 931 dL_act_928 rfl rfl (by first | decide | assumption | exact hV.b _ | exact mSh_rg hV.b _ _ | (constructor <;> omega)) (fun c15 => ?_) (fun c15 => ?_)
                  · refine zF_aload_n 950 dL_act_949 rfl rfl ?_
                    refine zF_getRN 953 dL_act_950 rfl gnL_52 O910.k0 O910.l0 (O910.f 7 6 10 (by decide)).1 ?_
                    refine zF_iload 955 dL_act_953 rfl rfl ?_
                    refine zF_aload 957 dL_act_955 rfl rfl ?_
                    refine zF_aastA 958 dL_act_957 rfl (O910.f 7 6 10 (by decide)).2.2 (O910.f 7 6 10 (by decide)).2.1 k910.1 k910.2.1 hAO (by omega) (by omega) ?_
                    refine zF_iload 960 dL_act_958 rfl rfl ?_
                    refine zF_iload 962 dL_act_960 rfl rfl ?_
                    refine zF_icmp_ne 969 965 dL_act_962 rfl rfl (by first | decide | assumption | exact hV.b _ | exact mSh_rg hV.b _ _ | (constructor <;> omega)) (by first | decide | assumption | exact hV.b _ | exact mSh_rg hV.b _ _ | (constructor <;> omega)) (fun c16 => ?_) (fun c16 => ?_)
                    · exact absurd c16 (by decide)
                    · refine zF_iconst 966 dL_act_965 rfl ?_
                      refine zF_goto 970 dL_act_966 rfl ?_
                      exact zF_ireturn dL_act_970 rfl (pAct_sw hV ((zAE_ge (gB832)).tr (zAE_fr fr910)) (by have q1 := fr910.1; have q2 := fr910.2.2.2.1; have q3 := fr910.2.2.2.2.1; have p1 := fr832.1; have p2 := fr832.2.2.2.1; have p3 := fr832.2.2.2.2.1; unfold zB; omega) rfl L910 O910 (fun j hj => by unfold mBook; rw [if_neg (by omega), if_neg (by omega), if_neg (by omega), if_neg (by omega)]) s0 s1 hU hn0 hn1 (by omega) k910)
                  · exact absurd c15 (by decide)
  · refine zF_bipush 793 dL_act_791 rfl (by decide) ?_
    refine zF_goto 797 dL_act_793 rfl ?_
    refine zF_istore 799 (ls' := [(12, zI (-2)), (11, zR (zn σ)), (10, zI day), (9, zI g), (8, zI 1), (7, zI s), (6, zI h), (5, zI f), (4, zI w), (3, zI z3), (0, zR (B0 0)), (1, zR (E 0)), (2, zI vv)]) dL_act_797 rfl (by decide) rfl ?_
    refine zF_iload 801 dL_act_799 rfl rfl ?_
    refine zF_if_ne 896 804 dL_act_801 rfl rfl (by first | decide | assumption | exact hV.b _ | exact mSh_rg hV.b _ _ | (constructor <;> omega)) (fun c17 => ?_) (fun c17 => ?_)
    · refine zF_iload 898 dL_act_896 rfl rfl ?_
      refine zF_if_eq 916 901 dL_act_898 rfl rfl (by first | decide | assumption | exact hV.b _ | exact mSh_rg hV.b _ _ | (constructor <;> omega)) (fun c18 => ?_) (fun c18 => ?_)
      · exact absurd c18 (by decide)
      · refine zF_aload_n 902 dL_act_901 rfl rfl ?_
        refine zF_iload 904 dL_act_902 rfl rfl ?_
        refine zF_iload 906 dL_act_904 rfl rfl ?_
        refine zF_iload 908 dL_act_906 rfl rfl ?_
        refine zF_iload 910 dL_act_908 rfl rfl ?_
        refine zF_callV 913 (d2 := (d + 9)) (as := [zI s, zI f, zI g, zI day]) dL_act_910 rfl kL_183 iX11_split (ci := 11) rfl eX11_split (Nat.le_refl _) (hL.ge (zGE.gw (E := E) gc) hs228 hE228).1.bk (hL.ge (zGE.gw (E := E) gc) hs228 hE228).1.bl rfl rfl (Nat.le_of_ble_eq_true rfl) (zE.mono (pL_split (d := d) (s := s) (a := f) (b := g) (c := day) hGd (hL.ge (zGE.gw (E := E) gc) hs228 hE228) s0 s1 f0 f1 g0 g1 fg dy0 dy1) fun ro σs910_9 hh910 => ?_)
        have hq910 : pNo N H u T (-2) σ774 ro σs910_9 := by rcases hh910 with ⟨q1, q⟩ | ⟨q1, q2, q⟩ | ⟨q1, q2, q⟩ <;> first | exact q | (exfalso; omega) | (exfalso; have r := en_2 q2; omega) | (exfalso; have r := en_2' q2; omega)
        obtain ⟨er910, fr910, L910⟩ := hq910
        subst er910
        refine ⟨fr910.1, ?_⟩
        have k910 := kc.fr fr910 hcM
        have O910 := hEc.mu fr910 (hU.wk (by first | exact gc.1 | exact gB832.1) : eU E n0 (zn σ774)) hn0 (by first | (have q := fr832.1; omega) | omega)
        show zF G mL_act (d + 10) 913 [(12, zI (-2)), (11, zR (zn σ)), (10, zI day), (9, zI g), (8, zI 1), (7, zI s), (6, zI h), (5, zI f), (4, zI w), (3, zI z3), (0, zR (B0 0)), (1, zR (E 0)), (2, zI vv)] [zI (-2)] σs910_9 _
        refine zF_goto 924 dL_act_913 rfl ?_
        refine zF_istore 926 (ls' := [(13, zI (-2)), (12, zI (-2)), (11, zR (zn σ)), (10, zI day), (9, zI g), (8, zI 1), (7, zI s), (6, zI h), (5, zI f), (4, zI w), (3, zI z3), (0, zR (B0 0)), (1, zR (E 0)), (2, zI vv)]) dL_act_924 rfl (by decide) rfl ?_
        refine zF_iload 928 dL_act_926 rfl rfl ?_
        refine zF_if_ne 949 931 dL_act_928 rfl rfl (by first | decide | assumption | exact hV.b _ | exact mSh_rg hV.b _ _ | (constructor <;> omega)) (fun c19 => ?_) (fun c19 => ?_)
        · refine zF_aload_n 950 dL_act_949 rfl rfl ?_
          refine zF_getRN 953 dL_act_950 rfl gnL_52 O910.k0 O910.l0 (O910.f 7 6 10 (by decide)).1 ?_
          refine zF_iload 955 dL_act_953 rfl rfl ?_
          refine zF_aload 957 dL_act_955 rfl rfl ?_
          refine zF_aastA 958 dL_act_957 rfl (O910.f 7 6 10 (by decide)).2.2 (O910.f 7 6 10 (by decide)).2.1 k910.1 k910.2.1 hAO (by omega) (by omega) ?_
          refine zF_iload 960 dL_act_958 rfl rfl ?_
          refine zF_iload 962 dL_act_960 rfl rfl ?_
          refine zF_icmp_ne 969 965 dL_act_962 rfl rfl (by first | decide | assumption | exact hV.b _ | exact mSh_rg hV.b _ _ | (constructor <;> omega)) (by first | decide | assumption | exact hV.b _ | exact mSh_rg hV.b _ _ | (constructor <;> omega)) (fun c20 => ?_) (fun c20 => ?_)
          · exact absurd c20 (by decide)
          · refine zF_iconst 966 dL_act_965 rfl ?_
            refine zF_goto 970 dL_act_966 rfl ?_
            exact zF_ireturn dL_act_970 rfl (pAct_sw hV ((zAE_ge (zGE.gw gc)).tr (zAE_fr fr910)) (by have q1 := fr910.1; have q2 := fr910.2.2.2.1; have q3 := fr910.2.2.2.2.1; unfold zB; omega) rfl L910 O910 (fun j hj => rfl) s0 s1 hU hn0 hn1 (by omega) k910)
        · exact absurd c19 (by decide)
    · exact absurd c17 (by decide)
set_option maxRecDepth 20000 in
theorem act_book (hGd : zGd G) (hAO : zAO G) (hL : cL T (N, H, u) σ) (hT : T ≤ 19999) (hE : eO N σ E) (hU : eU E n0 (zn σ)) (hn0 : 228 ≤ n0) (hbg : zn σ + 10 < zbg) (zz : zrg z3) (f0 : 0 ≤ f) (f1 : f < N 2) (s0 : 0 ≤ s) (s1 : s < N 1) (hn1 : n0 ≤ zn σ) : zF G mL_act (d + 10) 703 [(7, zI s), (6, zI h), (5, zI f), (4, zI w), (3, zI z3), (0, zR (B0 0)), (1, zR (E 0)), (2, zI vv)] [] σ (pAct N H u T E n0 σ) := by
  have hK : cK T N σ := hL.K
  have hV := hK.V
  have hn := hV.n
  have hb := eB_of hV
  have hE228 := hU.ge228 hn0
  have hs228 := hL.1.1
  refine zF_iload_n 704 dL_act_703 rfl rfl ?_
  refine zF_iconst 705 dL_act_704 rfl ?_
  refine zF_icmp_le 720 708 dL_act_705 rfl rfl (by first | decide | assumption | exact hV.b _ | exact mSh_rg hV.b _ _ | (constructor <;> omega)) (by first | decide | assumption | exact hV.b _ | exact mSh_rg hV.b _ _ | (constructor <;> omega)) (fun c1 => ?_) (fun c1 => ?_)
  · refine zF_iconst 721 dL_act_720 rfl ?_
    refine zF_istore 723 (ls' := [(8, zI 0), (7, zI s), (6, zI h), (5, zI f), (4, zI w), (3, zI z3), (0, zR (B0 0)), (1, zR (E 0)), (2, zI vv)]) dL_act_721 rfl (by decide) rfl ?_
    refine zF_iload 725 dL_act_723 rfl rfl ?_
    refine zF_iconst 726 dL_act_725 rfl ?_
    refine zF_iadd 727 dL_act_726 rfl ?_
    refine zF_iload 729 dL_act_727 rfl rfl ?_
    refine zF_bipush 731 dL_act_729 rfl (by decide) ?_
    refine zF_ishr 732 dL_act_731 rfl ?_
    refine zF_iconst 733 dL_act_732 rfl ?_
    refine zF_aload_n 734 dL_act_733 rfl rfl ?_
    refine zF_getIN 737 dL_act_734 rfl gnL_39 (by decide) (by decide) hE.k0 hE.l0 hE.i2 ?_
    refine zF_iconst 738 dL_act_737 rfl ?_
    refine zF_isub 739 dL_act_738 rfl ?_
    refine zF_max 742 dL_act_739 rfl kL_173 (Nat.le_refl _) (by first | decide | assumption | exact hV.b _ | exact mSh_rg hV.b _ _ | (constructor <;> omega)) (by first | decide | assumption | exact hV.b _ | exact mSh_rg hV.b _ _ | (constructor <;> omega)) (Nat.le_of_ble_eq_true rfl) ?_
    refine zF_callS 745 (d2 := (d + 9)) (as := [zI ((Int32.ofInt w >>> (Int32.ofInt 6 &&& 31)).toInt), zI (max 1 ((N 2) - 1))]) dL_act_742 rfl kL_27 sL_most (Nat.le_refl _) rfl rfl (Nat.le_of_ble_eq_true rfl) (zE.mono (zt_L_most (by omega) (by constructor <;> omega)) fun ro σx742 hh742 => ?_)
    obtain ⟨es742, z742, er742, zl742, zu742⟩ := hh742
    replace es742 := es742.symm
    subst es742
    subst er742
    refine ⟨rfl, ?_⟩
    show zF G mL_act (d + 10) 745 [(8, zI 0), (7, zI s), (6, zI h), (5, zI f), (4, zI w), (3, zI z3), (0, zR (B0 0)), (1, zR (E 0)), (2, zI vv)] [zI z742, zI (f + 1)] σ _
    refine zF_iadd 746 dL_act_745 rfl ?_
    refine zF_aload_n 747 dL_act_746 rfl rfl ?_
    refine zF_getIN 750 dL_act_747 rfl gnL_39 (by decide) (by decide) hE.k0 hE.l0 hE.i2 ?_
    refine zF_irem 751 dL_act_750 rfl (by omega) (by omega) (by omega) (by omega) ?_
    refine zF_istore 753 (ls' := [(9, zI (((f + 1) + z742) % (N 2))), (8, zI 0), (7, zI s), (6, zI h), (5, zI f), (4, zI w), (3, zI z3), (0, zR (B0 0)), (1, zR (E 0)), (2, zI vv)]) dL_act_751 rfl (by decide) rfl ?_
    exact act_book2 hGd hAO hL hT hE hU hn0 hbg f0 f1 s0 s1 hn1
  · refine zF_aload_n 709 dL_act_708 rfl rfl ?_
    refine zF_getIN 712 dL_act_709 rfl gnL_39 (by decide) (by decide) hE.k0 hE.l0 hE.i2 ?_
    refine zF_iconst 713 dL_act_712 rfl ?_
    refine zF_icmp_le 720 716 dL_act_713 rfl rfl (by first | decide | assumption | exact hV.b _ | exact mSh_rg hV.b _ _ | (constructor <;> omega)) (by first | decide | assumption | exact hV.b _ | exact mSh_rg hV.b _ _ | (constructor <;> omega)) (fun c2 => ?_) (fun c2 => ?_)
    · refine zF_iconst 721 dL_act_720 rfl ?_
      refine zF_istore 723 (ls' := [(8, zI 0), (7, zI s), (6, zI h), (5, zI f), (4, zI w), (3, zI z3), (0, zR (B0 0)), (1, zR (E 0)), (2, zI vv)]) dL_act_721 rfl (by decide) rfl ?_
      refine zF_iload 725 dL_act_723 rfl rfl ?_
      refine zF_iconst 726 dL_act_725 rfl ?_
      refine zF_iadd 727 dL_act_726 rfl ?_
      refine zF_iload 729 dL_act_727 rfl rfl ?_
      refine zF_bipush 731 dL_act_729 rfl (by decide) ?_
      refine zF_ishr 732 dL_act_731 rfl ?_
      refine zF_iconst 733 dL_act_732 rfl ?_
      refine zF_aload_n 734 dL_act_733 rfl rfl ?_
      refine zF_getIN 737 dL_act_734 rfl gnL_39 (by decide) (by decide) hE.k0 hE.l0 hE.i2 ?_
      refine zF_iconst 738 dL_act_737 rfl ?_
      refine zF_isub 739 dL_act_738 rfl ?_
      refine zF_max 742 dL_act_739 rfl kL_173 (Nat.le_refl _) (by first | decide | assumption | exact hV.b _ | exact mSh_rg hV.b _ _ | (constructor <;> omega)) (by first | decide | assumption | exact hV.b _ | exact mSh_rg hV.b _ _ | (constructor <;> omega)) (Nat.le_of_ble_eq_true rfl) ?_
      refine zF_callS 745 (d2 := (d + 9)) (as := [zI ((Int32.ofInt w >>> (Int32.ofInt 6 &&& 31)).toInt), zI (max 1 ((N 2) - 1))]) dL_act_742 rfl kL_27 sL_most (Nat.le_refl _) rfl rfl (Nat.le_of_ble_eq_true rfl) (zE.mono (zt_L_most (by omega) (by constructor <;> omega)) fun ro σx742 hh742 => ?_)
      obtain ⟨es742, z742, er742, zl742, zu742⟩ := hh742
      replace es742 := es742.symm
      subst es742
      subst er742
      refine ⟨rfl, ?_⟩
      show zF G mL_act (d + 10) 745 [(8, zI 0), (7, zI s), (6, zI h), (5, zI f), (4, zI w), (3, zI z3), (0, zR (B0 0)), (1, zR (E 0)), (2, zI vv)] [zI z742, zI (f + 1)] σ _
      refine zF_iadd 746 dL_act_745 rfl ?_
      refine zF_aload_n 747 dL_act_746 rfl rfl ?_
      refine zF_getIN 750 dL_act_747 rfl gnL_39 (by decide) (by decide) hE.k0 hE.l0 hE.i2 ?_
      refine zF_irem 751 dL_act_750 rfl (by omega) (by omega) (by omega) (by omega) ?_
      refine zF_istore 753 (ls' := [(9, zI (((f + 1) + z742) % (N 2))), (8, zI 0), (7, zI s), (6, zI h), (5, zI f), (4, zI w), (3, zI z3), (0, zR (B0 0)), (1, zR (E 0)), (2, zI vv)]) dL_act_751 rfl (by decide) rfl ?_
      exact act_book2 hGd hAO hL hT hE hU hn0 hbg f0 f1 s0 s1 hn1
    · refine zF_iconst 717 dL_act_716 rfl ?_
      refine zF_goto 721 dL_act_717 rfl ?_
      refine zF_istore 723 (ls' := [(8, zI 1), (7, zI s), (6, zI h), (5, zI f), (4, zI w), (3, zI z3), (0, zR (B0 0)), (1, zR (E 0)), (2, zI vv)]) dL_act_721 rfl (by decide) rfl ?_
      refine zF_iload 725 dL_act_723 rfl rfl ?_
      refine zF_iconst 726 dL_act_725 rfl ?_
      refine zF_iadd 727 dL_act_726 rfl ?_
      refine zF_iload 729 dL_act_727 rfl rfl ?_
      refine zF_bipush 731 dL_act_729 rfl (by decide) ?_
      refine zF_ishr 732 dL_act_731 rfl ?_
      refine zF_iconst 733 dL_act_732 rfl ?_
      refine zF_aload_n 734 dL_act_733 rfl rfl ?_
      refine zF_getIN 737 dL_act_734 rfl gnL_39 (by decide) (by decide) hE.k0 hE.l0 hE.i2 ?_
      refine zF_iconst 738 dL_act_737 rfl ?_
      refine zF_isub 739 dL_act_738 rfl ?_
      refine zF_max 742 dL_act_739 rfl kL_173 (Nat.le_refl _) (by first | decide | assumption | exact hV.b _ | exact mSh_rg hV.b _ _ | (constructor <;> omega)) (by first | decide | assumption | exact hV.b _ | exact mSh_rg hV.b _ _ | (constructor <;> omega)) (Nat.le_of_ble_eq_true rfl) ?_
      refine zF_callS 745 (d2 := (d + 9)) (as := [zI ((Int32.ofInt w >>> (Int32.ofInt 6 &&& 31)).toInt), zI (max 1 ((N 2) - 1))]) dL_act_742 rfl kL_27 sL_most (Nat.le_refl _) rfl rfl (Nat.le_of_ble_eq_true rfl) (zE.mono (zt_L_most (by omega) (by constructor <;> omega)) fun ro σx742 hh742 => ?_)
      obtain ⟨es742, z742, er742, zl742, zu742⟩ := hh742
      replace es742 := es742.symm
      subst es742
      subst er742
      refine ⟨rfl, ?_⟩
      show zF G mL_act (d + 10) 745 [(8, zI 1), (7, zI s), (6, zI h), (5, zI f), (4, zI w), (3, zI z3), (0, zR (B0 0)), (1, zR (E 0)), (2, zI vv)] [zI z742, zI (f + 1)] σ _
      refine zF_iadd 746 dL_act_745 rfl ?_
      refine zF_aload_n 747 dL_act_746 rfl rfl ?_
      refine zF_getIN 750 dL_act_747 rfl gnL_39 (by decide) (by decide) hE.k0 hE.l0 hE.i2 ?_
      refine zF_irem 751 dL_act_750 rfl (by omega) (by omega) (by omega) (by omega) ?_
      refine zF_istore 753 (ls' := [(9, zI (((f + 1) + z742) % (N 2))), (8, zI 1), (7, zI s), (6, zI h), (5, zI f), (4, zI w), (3, zI z3), (0, zR (B0 0)), (1, zR (E 0)), (2, zI vv)]) dL_act_751 rfl (by decide) rfl ?_
      exact act_split2 hGd hAO hL hT hE hU hn0 hbg f0 f1 s0 s1 hn1 (bk_g f0 f1 (by omega) (by omega)).1 (bk_g f0 f1 (by omega) (by omega)).2.1 (bk_g f0 f1 (by omega) (by omega)).2.2
end ZQG

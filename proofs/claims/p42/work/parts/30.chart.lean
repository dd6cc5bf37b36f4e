/-! the class: holding, the chart, the forecast -/
section ZC4
variable {G : zG} {d : Nat} {σ : zMem} {B : Nat → Nat} {N : Int → Int}
theorem cRc_congr {σ2 : zMem} {b : Nat} (e : ∀ k, k ≤ 12 → zia σ2 (B (b + k)) = zia σ (B (b + k))) (h : cRc N σ B b) : cRc N σ2 B b := by
  unfold cRc at h ⊢
  have e0 : zia σ2 (B b) = zia σ (B b) := e 0 (by omega)
  rw [e0, e 1 (by omega), e 2 (by omega), e 4 (by omega), e 5 (by omega), e 6 (by omega), e 8 (by omega), e 9 (by omega), e 10 (by omega), e 11 (by omega), e 12 (by omega)]
  exact h
theorem cRs_congr {σ2 : zMem} {b : Nat} (e : ∀ k, k ≤ 15 → zia σ2 (B (b + k)) = zia σ (B (b + k))) (h : cRs N σ B b) : cRs N σ2 B b := by
  unfold cRs at h ⊢
  have e0 : zia σ2 (B b) = zia σ (B b) := e 0 (by omega)
  rw [e0, e 3 (by omega), e 4 (by omega), e 5 (by omega), e 6 (by omega), e 7 (by omega), e 8 (by omega), e 9 (by omega), e 10 (by omega), e 11 (by omega), e 12 (by omega), e 13 (by omega), e 14 (by omega), e 15 (by omega)]
  exact h
theorem cR_congr {σ2 : zMem} (e : ∀ i, i ≤ 302 → zia σ2 (B i) = zia σ (B i)) (h : cR N σ B) : cR N σ2 B :=
  ⟨cRc_congr (fun k hk => e (100 + k) (by omega)) h.1, cRs_congr (fun k hk => e (200 + k) (by omega)) h.2.1, by rw [e 302 (by omega)]; exact h.2.2⟩
/-- what a question of the class may write -/
def cSc (B : Nat → Nat) (h : Nat) (j : Int) : Prop := (∃ i, h = B i ∧ (i = 303 ∨ (400 ≤ i ∧ i < 500))) ∧ ¬ (h = B 408 ∧ j = 0)
theorem cM_fr {P : Nat → Int → Prop} {σ2 : zMem} (h : cM σ B) (f : zFr P σ σ2) : cM σ2 B := by
  obtain ⟨f1, f2, f3, -⟩ := f
  unfold cM cCh cSt cWk at h ⊢
  rw [f1, f2, f3]
  exact h
theorem cO_fr {P : Nat → Int → Prop} {σ2 : zMem} (h : cO σ B) (f : zFr P σ σ2) : cO σ2 B := by
  have := cM_fr h.1 f
  obtain ⟨f1, f2, f3, -⟩ := f
  unfold cO at h ⊢
  rw [f1, f2, f3]
  exact ⟨this, h.2⟩
theorem cR_fr {P : Nat → Int → Prop} {σ2 : zMem} (hB : cM σ B) (f : zFr P σ σ2) (hp : ∀ i j, i ≤ 302 → ¬ P (B i) j) (h : cR N σ B) : cR N σ2 B := cR_congr (fun i hi => f.at fun j => hp i j hi) h
theorem cSc_no (hB : cM σ B) (i : Nat) (j : Int) (hi : i ≤ 302) : ¬ cSc B (B i) j := fun ⟨⟨k, e, c⟩, _⟩ => by
  have := hB.inj _ _ e
  omega
theorem cR_sc {σ2 : zMem} (hB : cM σ B) (f : zFr (cSc B) σ σ2) (h : cR N σ B) : cR N σ2 B := cR_fr hB f (cSc_no hB) h
/-- a question's end, for those that write beside -/
def cop (k v : Int) (B : Nat → Nat) (σ : zMem) : zRes → zMem → Prop := fun r σ1 => (k = 0 ∧ r = .inl (some (zI v)) ∧ zFr (cSc B) σ σ1) ∨ (k = 1 ∧ r = .inr eNSE ∧ σ1 = zus σ 1 6) ∨ (k = 2 ∧ r = .inr eIAE ∧ σ1 = zus σ 1 6)
theorem copR {k v x : Int} {σ1 : zMem} (f : zFr (cSc B) σ σ1) (hk : k = 0) (hv : x = v) : cop k v B σ (.inl (some (zI x))) σ1 := Or.inl ⟨hk, by rw [hv], f⟩
theorem copN {k v : Int} (hk : k = 1) : cop k v B σ (.inr "java/util/NoSuchElementException") (zus σ 1 6) := Or.inr (Or.inl ⟨hk, rfl, rfl⟩)
theorem rk303 {x : Nat} {σ2 : zMem} {v : Int} (p : ∀ f : Int, 0 ≤ f → f < x → zia σ2 (B 303) f = mRk N f) (ev : v = mRk N x) : ∀ f : Int, 0 ≤ f → f < ((x + 1 : Nat) : Int) → zia (zsi σ2 (B 303) (x : Int) v) (B 303) f = mRk N f := fun f a b => by
  rw [zia_si]
  by_cases q : f = x
  · rw [if_pos ⟨rfl, q⟩, ev, q]
  · rw [if_neg (fun z => q z.2), p f a (by omega)]
theorem zt_X10_fillsWell {a : Int} (hB : cM σ B) (hR : cR N σ B) (hV : mV N) (hW : mW N) (hX : mX N) (hQ : mQ N) (s0 : 0 ≤ a) (s1 : a < N 1) : zP1 G mX10_fillsWell (d + 2) [zR (B 300), zI a] σ (zb (mHold N a)) := by
  refine zE_of rfl (by simp [zcat]) (Nat.le_of_ble_eq_true rfl) ?_
  show zF G mX10_fillsWell (d + 2) 0 [(0, zR (B 300)), (1, zI a)] [] σ _
  have hb := hV.b
  have hn := hV.n
  have qs := hV.s a s0 (by omega)
  have qw := hW a s0 s1
  have qb := mSh_b hV s0 (by omega) 6
  refine zF_aload_n 1 dX10_fillsWell_0 rfl rfl ?_
  refine zF_getR 4 dX10_fillsWell_1 rfl gX10_22 hB.wk.1 hB.wk.2.1 hB.wk.2.2.2.1 ?_
  refine zF_iload_n 5 dX10_fillsWell_4 rfl rfl ?_
  refine zF_bipush 7 dX10_fillsWell_5 rfl (by decide) ?_
  refine zF_callVi 10 (d2 := (d + 1)) (as := [zI a, zI 6]) dX10_fillsWell_7 rfl kX10_32 iX8_filmOn (ci := 8) rfl eX8_filmOn (Nat.le_refl _) hB.st.1 hB.st.2.1 rfl rfl (Nat.le_of_ble_eq_true rfl) (zt_X8_filmOn hB hR hV hX (by omega) (by omega) (by first | decide | assumption | exact hb _ | exact mSh_rg hb _ _ | exact zb_rg _ | (constructor <;> omega))) ?_
  refine zF_iconst 11 dX10_fillsWell_10 rfl ?_
  refine zF_icmp_ne 16 14 dX10_fillsWell_11 rfl rfl (by first | decide | assumption | exact hb _ | exact mSh_rg hb _ _ | exact zb_rg _ | (constructor <;> omega)) (by first | decide | assumption | exact hb _ | exact mSh_rg hb _ _ | exact zb_rg _ | (constructor <;> omega)) (fun c1 => ?_) (fun c1 => ?_)
  · refine zF_aload_n 17 dX10_fillsWell_16 rfl rfl ?_
    refine zF_getR 20 dX10_fillsWell_17 rfl gX10_22 hB.wk.1 hB.wk.2.1 hB.wk.2.2.2.1 ?_
    refine zF_getR 23 dX10_fillsWell_20 rfl gX10_112 hB.st.1 hB.st.2.1 (cB_208 hB).1 ?_
    refine zF_iload_n 24 dX10_fillsWell_23 rfl rfl ?_
    refine zF_iaload 25 dX10_fillsWell_24 rfl (cB_208 hB).2.2 (cB_208 hB).2.1 (by omega) (by omega) (hR.s.2.2.1 _ (by omega) (by omega)).2.2.2.1 ?_
    refine zF_istore_n 26 (ls' := [(2, zI (mS N a 6)), (0, zR (B 300)), (1, zI a)]) dX10_fillsWell_25 rfl (by decide) rfl ?_
    refine zF_aload_n 27 dX10_fillsWell_26 rfl rfl ?_
    refine zF_getR 30 dX10_fillsWell_27 rfl gX10_18 hB.wk.1 hB.wk.2.1 hB.wk.2.2.1 ?_
    refine zF_iload_n 31 dX10_fillsWell_30 rfl rfl ?_
    refine zF_callVi 34 (d2 := (d + 1)) (as := [zI a]) dX10_fillsWell_31 rfl kX10_67 iX1_priceAt (ci := 1) rfl eX1_priceAt (Nat.le_refl _) hB.ch.1 hB.ch.2.1 rfl rfl (Nat.le_of_ble_eq_true rfl) (zt_X1_priceAt hB hR hV hW (by omega) (by omega)) ?_
    refine zF_istore_n 35 (ls' := [(3, zI (mPrice N a)), (2, zI (mS N a 6)), (0, zR (B 300)), (1, zI a)]) dX10_fillsWell_34 rfl (by decide) rfl ?_
    refine zF_aload_n 36 dX10_fillsWell_35 rfl rfl ?_
    refine zF_iload_n 37 dX10_fillsWell_36 rfl rfl ?_
    refine zF_iload_n 38 dX10_fillsWell_37 rfl rfl ?_
    refine zF_callVi 41 (d2 := (d + 1)) (as := [zI a, zI (mS N a 6)]) dX10_fillsWell_38 rfl kX10_70 iX10_visitorsSince (ci := 10) rfl eX10_visitorsSince (Nat.le_refl _) hB.wk.1 hB.wk.2.1 rfl rfl (Nat.le_of_ble_eq_true rfl) (zt_X10_visitorsSince hB hR hV (by omega) (by omega) (by omega) (by omega)) ?_
    refine zF_iload_n 42 dX10_fillsWell_41 rfl rfl ?_
    refine zF_imul 43 dX10_fillsWell_42 rfl ?_
    refine zF_istore 45 (ls' := [(4, zI ((vSn N a (mS N a 6) (7 - (mS N a 6)).toNat) * (mPrice N a))), (3, zI (mPrice N a)), (2, zI (mS N a 6)), (0, zR (B 300)), (1, zI a)]) dX10_fillsWell_43 rfl (by decide) rfl ?_
    refine zF_aload_n 46 dX10_fillsWell_45 rfl rfl ?_
    refine zF_getR 49 dX10_fillsWell_46 rfl gX10_18 hB.wk.1 hB.wk.2.1 hB.wk.2.2.1 ?_
    refine zF_iload_n 50 dX10_fillsWell_49 rfl rfl ?_
    refine zF_callVi 53 (d2 := (d + 1)) (as := [zI a]) dX10_fillsWell_50 rfl kX10_52 iX1_capacityOf (ci := 1) rfl eX1_capacityOf (Nat.le_refl _) hB.ch.1 hB.ch.2.1 rfl rfl (Nat.le_of_ble_eq_true rfl) (zt_X1_capacityOf hB hR hV (by omega) (by omega)) ?_
    refine zF_iload_n 54 dX10_fillsWell_53 rfl rfl ?_
    refine zF_imul 55 dX10_fillsWell_54 rfl ?_
    refine zF_bipush 57 dX10_fillsWell_55 rfl (by decide) ?_
    refine zF_iload_n 58 dX10_fillsWell_57 rfl rfl ?_
    refine zF_isub 59 dX10_fillsWell_58 rfl ?_
    refine zF_imul 60 dX10_fillsWell_59 rfl ?_
    refine zF_istore 62 (ls' := [(5, zI (((mCap N a) * (mPrice N a)) * (7 - (mS N a 6)))), (4, zI ((vSn N a (mS N a 6) (7 - (mS N a 6)).toNat) * (mPrice N a))), (3, zI (mPrice N a)), (2, zI (mS N a 6)), (0, zR (B 300)), (1, zI a)]) dX10_fillsWell_60 rfl (by decide) rfl ?_
    refine zF_iload 64 dX10_fillsWell_62 rfl rfl ?_
    refine zF_bipush 66 dX10_fillsWell_64 rfl (by decide) ?_
    refine zF_imul 67 dX10_fillsWell_66 rfl ?_
    refine zF_aload_n 68 dX10_fillsWell_67 rfl rfl ?_
    refine zF_getR 71 dX10_fillsWell_68 rfl gX10_22 hB.wk.1 hB.wk.2.1 hB.wk.2.2.2.1 ?_
    refine zF_getR 74 dX10_fillsWell_71 rfl gX10_115 hB.st.1 hB.st.2.1 (cB_203 hB).1 ?_
    refine zF_aload_n 75 dX10_fillsWell_74 rfl rfl ?_
    refine zF_getR 78 dX10_fillsWell_75 rfl gX10_18 hB.wk.1 hB.wk.2.1 hB.wk.2.2.1 ?_
    refine zF_getR 81 dX10_fillsWell_78 rfl gX10_64 hB.ch.1 hB.ch.2.1 (cB_104 hB).1 ?_
    refine zF_iload_n 82 dX10_fillsWell_81 rfl rfl ?_
    refine zF_iaload 83 dX10_fillsWell_82 rfl (cB_104 hB).2.2 (cB_104 hB).2.1 (by omega) (by omega) (hR.c.2.2.1 _ (by omega) (by omega)).1 ?_
    refine zF_iaload 84 dX10_fillsWell_83 rfl (cB_203 hB).2.2 (cB_203 hB).2.1 (by omega) (by omega) (hR.s.2.1 _ (by omega) (by omega)).1 ?_
    refine zF_iload 86 dX10_fillsWell_84 rfl rfl ?_
    refine zF_imul 87 dX10_fillsWell_86 rfl ?_
    have qv := vSn_b hV s0 (by omega) (mS N a 6) (7 - mS N a 6).toNat
    have qc := mCap_b hV s0 (by omega)
    have qp := mPrice_b hV s0 (by omega)
    have qh := mH_b hV s0 (by omega)
    have qx := (hold_b qh (b := 7 - mS N a 6) (by omega) qc qp).2
    have qm := zmul_b qv.1 (Y := 99) (X := 21000) (by omega) qp.1 qp.2
    refine zF_icmp_lt 94 90 dX10_fillsWell_87 rfl rfl (by first | decide | assumption | exact hb _ | exact mSh_rg hb _ _ | exact zb_rg _ | (constructor <;> omega)) (by first | decide | assumption | exact hb _ | exact mSh_rg hb _ _ | exact zb_rg _ | (constructor <;> omega)) (fun c2 => ?_) (fun c2 => ?_)
    · refine zF_iconst 95 dX10_fillsWell_94 rfl ?_
      exact zF_zretP dX10_fillsWell_95 rfl (by decide) (by first | exact zbT ⟨by assumption, by omega⟩ | exact zbF (fun z => by have := z.1; have := z.2; omega))
    · refine zF_iconst 91 dX10_fillsWell_90 rfl ?_
      refine zF_goto 95 dX10_fillsWell_91 rfl ?_
      exact zF_zretP dX10_fillsWell_95 rfl (by decide) (by first | exact zbT ⟨by assumption, by omega⟩ | exact zbF (fun z => by have := z.1; have := z.2; omega))
  · refine zF_iconst 15 dX10_fillsWell_14 rfl ?_
    exact zF_zretP dX10_fillsWell_15 rfl (by decide) (by first | exact zbT ⟨by assumption, by omega⟩ | exact zbF (fun z => by have := z.1; have := z.2; omega))
theorem eV_b (hV : mV N) {s : Int} (s0 : 0 ≤ s) (s1 : s < 10) (f day : Int) : 0 ≤ eV N s f day ∧ eV N s f day ≤ 3000 := by
  have := mCap_b hV s0 s1
  unfold eV
  omega
theorem fVN_b (hV : mV N) {s : Int} (s0 : 0 ≤ s) (s1 : s < 10) (f : Int) (n : Nat) : 0 ≤ fVN N s f n ∧ fVN N s f n ≤ n * 3000 := by
  have a := zsum_ge (f := fun day => eV N s f day) (n := n) (a := 0) fun i _ => (eV_b hV s0 s1 f i).1
  have b := zsum_le (f := fun day => eV N s f day) (n := n) (a := 3000) fun i _ => (eV_b hV s0 s1 f i).2
  unfold fVN
  omega
theorem zopZ {p : Prop} [Decidable p] {k x : Int} (hk : k = 0) (hv : x = zb p) : zop k (zb p) σ (.inl (some (zI x))) σ := zopR hk hv
theorem zt_X11_wouldHold {s : Int} (hG : zGd G) (hO : cO σ B) (hR : cR N σ B) (hV : mV N) (hW : mW N) (hX : mX N) (hQ : mQ N) (zs : zrg s) : zE G mX11_wouldHold (d + 8) [zR (B 0), zI s] σ (zop (if 0 ≤ s ∧ s < N 1 then 0 else 1) (zb (mHold N s)) σ) := by
  refine zE_of rfl (by simp [zcat]) (Nat.le_of_ble_eq_true rfl) ?_
  show zF G mX11_wouldHold (d + 8) 0 [(0, zR (B 0)), (1, zI s)] [] σ _
  have hB := hO.1
  have hb := hV.b
  have hn := hV.n
  refine zF_aload_n 1 dX11_wouldHold_0 rfl rfl ?_
  refine zF_iload_n 2 dX11_wouldHold_1 rfl rfl ?_
  refine zF_callV 5 (d2 := (d + 7)) (as := [zI s]) dX11_wouldHold_2 rfl kX11_203 iX11_checkScreen (ci := 11) rfl eX11_checkScreen (Nat.le_refl _) hO.2.1 hO.2.2.1 rfl rfl (Nat.le_of_ble_eq_true rfl) (zE.mono (zt_X11_checkScreen hG hO hR hV (by first | decide | assumption | exact hb _ | exact mSh_rg hb _ _ | exact zb_rg _ | (constructor <;> omega))) fun ro σx1 hh1 => ?_)
  rcases Decidable.em (0 ≤ s ∧ s < N 1) with kc1 | kc1
  rotate_left
  · rw [if_neg kc1] at hh1; obtain ⟨er1, es1⟩ := hh1; subst er1; subst es1; exact ⟨rfl, by decide, zopN (by repeat (first | rw [if_pos (by omega)] | rw [if_neg (by omega)]))⟩
  rw [if_pos kc1] at hh1; obtain ⟨er1, es1⟩ := hh1; subst er1; replace es1 := es1.symm; subst es1; refine ⟨rfl, ?_⟩
  show zF G mX11_wouldHold (d + 8) 5 [(0, zR (B 0)), (1, zI s)] [] σ _
  refine zF_aload_n 6 dX11_wouldHold_5 rfl rfl ?_
  refine zF_getR 9 dX11_wouldHold_6 rfl gX11_43 hO.2.1 hO.2.2.1 hO.2.2.2.2.2.2.2.1 ?_
  refine zF_iload_n 10 dX11_wouldHold_9 rfl rfl ?_
  refine zF_callVi 13 (d2 := (d + 7)) (as := [zI s]) dX11_wouldHold_10 rfl kX11_286 iX10_fillsWell (ci := 10) rfl eX10_fillsWell (Nat.le_refl _) hB.wk.1 hB.wk.2.1 rfl rfl (Nat.le_of_ble_eq_true rfl) (zt_X10_fillsWell hB hR hV hW hX hQ (by omega) (by omega)) ?_
  exact zF_zreturn dX11_wouldHold_13 rfl (zb01 _) (zopZ (by repeat (first | rw [if_pos (by omega)] | rw [if_neg (by omega)])) rfl)
theorem zt_X10_filmsAhead {f : Int} (hB : cM σ B) (hR : cR N σ B) (hV : mV N) (hW : mW N) (hQ : mQ N) (hK : ∀ f : Int, 0 ≤ f → f < N 2 → zia σ (B 303) f = mRk N f) (f0 : 0 ≤ f) (f1 : f < N 2) : zP1 G mX10_filmsAhead d [zR (B 300), zI f] σ (mAh N f (nF N)) := by
  refine zE_of rfl (by simp [zcat]) (Nat.le_of_ble_eq_true rfl) ?_
  show zF G mX10_filmsAhead d 0 [(0, zR (B 300)), (1, zI f)] [] σ _
  have hb := hV.b
  have hn := hV.n
  have hf := nF_eq hV
  have q1 := mRk_b hV hW hQ f0 (by omega)
  refine zF_iconst 1 dX10_filmsAhead_0 rfl ?_
  refine zF_istore_n 2 (ls' := [(2, zI 0), (0, zR (B 300)), (1, zI f)]) dX10_filmsAhead_1 rfl (by decide) rfl ?_
  refine zF_iconst 3 dX10_filmsAhead_2 rfl ?_
  refine zF_istore_n 4 (ls' := [(3, zI 0), (2, zI 0), (0, zR (B 300)), (1, zI f)]) dX10_filmsAhead_3 rfl (by decide) rfl ?_
  refine zF_locs (ls' := (fun (i : Nat) => [(3, zI (i : Int)), (2, zI (mAh N f i)), (0, zR (B 300)), (1, zI f)]) 0) ⟨zlI rfl (by first | rfl | omega | (push_cast; omega) | exact congrArg (_ + ·) (zbT (by assumption)) | exact congrArg (_ + ·) (zbF (by assumption)) | exact congrArg (_ + ·) (zbT (by omega)) | exact congrArg (_ + ·) (zbF (by omega)) | exact congrArg (_ + ·) (if_pos (by omega)).symm | exact congrArg (_ + ·) (if_neg (by omega)).symm | exact (if_pos (by omega)).symm | exact (if_neg (by omega)).symm | exact zsub_s (if_pos (by omega)).symm | exact zsub_s0 (if_neg (by omega)).symm | exact zadd0 (if_neg (by omega)).symm | exact zadd0 (zbF (by omega)) | exact (Int.sub_zero _).symm), zlI rfl (by first | rfl | omega | (push_cast; omega) | exact congrArg (_ + ·) (zbT (by assumption)) | exact congrArg (_ + ·) (zbF (by assumption)) | exact congrArg (_ + ·) (zbT (by omega)) | exact congrArg (_ + ·) (zbF (by omega)) | exact congrArg (_ + ·) (if_pos (by omega)).symm | exact congrArg (_ + ·) (if_neg (by omega)).symm | exact (if_pos (by omega)).symm | exact (if_neg (by omega)).symm | exact zsub_s (if_pos (by omega)).symm | exact zsub_s0 (if_neg (by omega)).symm | exact zadd0 (if_neg (by omega)).symm | exact zadd0 (zbF (by omega)) | exact (Int.sub_zero _).symm), rfl, rfl, trivial⟩ ?_
  refine zF_loop (n := (nF N)) (fun (i : Nat) => [(3, zI (i : Int)), (2, zI (mAh N f i)), (0, zR (B 300)), (1, zI f)]) (fun _ => σ) (fun i hi ih4 => ?_) ?_
  · show zF G mX10_filmsAhead d 4 [(3, zI (i : Int)), (2, zI (mAh N f i)), (0, zR (B 300)), (1, zI f)] [] σ _
    have q2 := mRk_b hV hW hQ (f := (i : Int)) (by omega) (by omega)
    have q3 := mAh_b N f i
    refine zF_iload_n 5 dX10_filmsAhead_4 rfl rfl ?_
    refine zF_aload_n 6 dX10_filmsAhead_5 rfl rfl ?_
    refine zF_getR 9 dX10_filmsAhead_6 rfl gX10_18 hB.wk.1 hB.wk.2.1 hB.wk.2.2.1 ?_
    refine zF_getI 12 dX10_filmsAhead_9 rfl gX10_38 (by decide) (by decide) hB.ch.1 hB.ch.2.1 hR.c.1.2.2 ?_
    refine zF_icmp_ge 54 15 dX10_filmsAhead_12 rfl rfl (by first | decide | assumption | exact hb _ | exact mSh_rg hb _ _ | exact zb_rg _ | (constructor <;> omega)) (by first | decide | assumption | exact hb _ | exact mSh_rg hb _ _ | exact zb_rg _ | (constructor <;> omega)) (fun c1 => ?_) (fun c1 => ?_)
    · exact absurd c1 (by omega)
    · refine zF_aload_n 16 dX10_filmsAhead_15 rfl rfl ?_
      refine zF_getR 19 dX10_filmsAhead_16 rfl gX10_15 hB.wk.1 hB.wk.2.1 (cB_303 hB).1 ?_
      refine zF_iload_n 20 dX10_filmsAhead_19 rfl rfl ?_
      refine zF_iaload 21 dX10_filmsAhead_20 rfl (cB_303 hB).2.2 (cB_303 hB).2.1 (by omega) (by omega) (hK _ (by omega) (by omega)) ?_
      refine zF_aload_n 22 dX10_filmsAhead_21 rfl rfl ?_
      refine zF_getR 25 dX10_filmsAhead_22 rfl gX10_15 hB.wk.1 hB.wk.2.1 (cB_303 hB).1 ?_
      refine zF_iload_n 26 dX10_filmsAhead_25 rfl rfl ?_
      refine zF_iaload 27 dX10_filmsAhead_26 rfl (cB_303 hB).2.2 (cB_303 hB).2.1 (by omega) (by omega) (hK _ (by omega) (by omega)) ?_
      refine zF_isub 28 dX10_filmsAhead_27 rfl ?_
      refine zF_istore 30 (ls' := [(4, zI ((mRk N (i : Int)) - (mRk N f))), (3, zI (i : Int)), (2, zI (mAh N f i)), (0, zR (B 300)), (1, zI f)]) dX10_filmsAhead_28 rfl (by decide) rfl ?_
      refine zF_iload 32 dX10_filmsAhead_30 rfl rfl ?_
      refine zF_if_gt 45 35 dX10_filmsAhead_32 rfl rfl (by first | decide | assumption | exact hb _ | exact mSh_rg hb _ _ | exact zb_rg _ | (constructor <;> omega)) (fun c2 => ?_) (fun c2 => ?_)
      · refine zF_iinc 48 (ls' := [(2, zI ((mAh N f i) + 1)), (4, zI ((mRk N (i : Int)) - (mRk N f))), (3, zI (i : Int)), (0, zR (B 300)), (1, zI f)]) dX10_filmsAhead_45 rfl rfl rfl (by decide) rfl ?_
        refine zF_iinc 51 (ls' := [(3, zI ((i : Int) + 1)), (2, zI ((mAh N f i) + 1)), (4, zI ((mRk N (i : Int)) - (mRk N f))), (0, zR (B 300)), (1, zI f)]) dX10_filmsAhead_48 rfl rfl rfl (by decide) rfl ?_
        refine zF_goto 4 dX10_filmsAhead_51 rfl ?_
        exact zF_locs (ls' := [(3, zI ((i + 1 : Nat) : Int)), (2, zI (mAh N f (i + 1))), (0, zR (B 300)), (1, zI f)]) ⟨zlI rfl (by first | rfl | omega | (push_cast; omega) | exact congrArg (_ + ·) (zbT (by assumption)) | exact congrArg (_ + ·) (zbF (by assumption)) | exact congrArg (_ + ·) (zbT (by omega)) | exact congrArg (_ + ·) (zbF (by omega)) | exact congrArg (_ + ·) (if_pos (by omega)).symm | exact congrArg (_ + ·) (if_neg (by omega)).symm | exact (if_pos (by omega)).symm | exact (if_neg (by omega)).symm | exact zsub_s (if_pos (by omega)).symm | exact zsub_s0 (if_neg (by omega)).symm | exact zadd0 (if_neg (by omega)).symm | exact zadd0 (zbF (by omega)) | exact (Int.sub_zero _).symm), zlI rfl (by first | rfl | omega | (push_cast; omega) | exact congrArg (_ + ·) (zbT (by assumption)) | exact congrArg (_ + ·) (zbF (by assumption)) | exact congrArg (_ + ·) (zbT (by omega)) | exact congrArg (_ + ·) (zbF (by omega)) | exact congrArg (_ + ·) (if_pos (by omega)).symm | exact congrArg (_ + ·) (if_neg (by omega)).symm | exact (if_pos (by omega)).symm | exact (if_neg (by omega)).symm | exact zsub_s (if_pos (by omega)).symm | exact zsub_s0 (if_neg (by omega)).symm | exact zadd0 (if_neg (by omega)).symm | exact zadd0 (zbF (by omega)) | exact (Int.sub_zero _).symm), rfl, rfl, trivial⟩ ih4
      · refine zF_iload 37 dX10_filmsAhead_35 rfl rfl ?_
        refine zF_if_ne 48 40 dX10_filmsAhead_37 rfl rfl (by first | decide | assumption | exact hb _ | exact mSh_rg hb _ _ | exact zb_rg _ | (constructor <;> omega)) (fun c3 => ?_) (fun c3 => ?_)
        · refine zF_iinc 51 (ls' := [(3, zI ((i : Int) + 1)), (4, zI ((mRk N (i : Int)) - (mRk N f))), (2, zI (mAh N f i)), (0, zR (B 300)), (1, zI f)]) dX10_filmsAhead_48 rfl rfl rfl (by decide) rfl ?_
          refine zF_goto 4 dX10_filmsAhead_51 rfl ?_
          exact zF_locs (ls' := [(3, zI ((i + 1 : Nat) : Int)), (2, zI (mAh N f (i + 1))), (0, zR (B 300)), (1, zI f)]) ⟨zlI rfl (by first | rfl | omega | (push_cast; omega) | exact congrArg (_ + ·) (zbT (by assumption)) | exact congrArg (_ + ·) (zbF (by assumption)) | exact congrArg (_ + ·) (zbT (by omega)) | exact congrArg (_ + ·) (zbF (by omega)) | exact congrArg (_ + ·) (if_pos (by omega)).symm | exact congrArg (_ + ·) (if_neg (by omega)).symm | exact (if_pos (by omega)).symm | exact (if_neg (by omega)).symm | exact zsub_s (if_pos (by omega)).symm | exact zsub_s0 (if_neg (by omega)).symm | exact zadd0 (if_neg (by omega)).symm | exact zadd0 (zbF (by omega)) | exact (Int.sub_zero _).symm), zlI rfl (by first | rfl | omega | (push_cast; omega) | exact congrArg (_ + ·) (zbT (by assumption)) | exact congrArg (_ + ·) (zbF (by assumption)) | exact congrArg (_ + ·) (zbT (by omega)) | exact congrArg (_ + ·) (zbF (by omega)) | exact congrArg (_ + ·) (if_pos (by omega)).symm | exact congrArg (_ + ·) (if_neg (by omega)).symm | exact (if_pos (by omega)).symm | exact (if_neg (by omega)).symm | exact zsub_s (if_pos (by omega)).symm | exact zsub_s0 (if_neg (by omega)).symm | exact zadd0 (if_neg (by omega)).symm | exact zadd0 (zbF (by omega)) | exact (Int.sub_zero _).symm), rfl, rfl, trivial⟩ ih4
        · refine zF_iload_n 41 dX10_filmsAhead_40 rfl rfl ?_
          refine zF_iload_n 42 dX10_filmsAhead_41 rfl rfl ?_
          refine zF_icmp_ge 48 45 dX10_filmsAhead_42 rfl rfl (by first | decide | assumption | exact hb _ | exact mSh_rg hb _ _ | exact zb_rg _ | (constructor <;> omega)) (by first | decide | assumption | exact hb _ | exact mSh_rg hb _ _ | exact zb_rg _ | (constructor <;> omega)) (fun c4 => ?_) (fun c4 => ?_)
          · refine zF_iinc 51 (ls' := [(3, zI ((i : Int) + 1)), (4, zI ((mRk N (i : Int)) - (mRk N f))), (2, zI (mAh N f i)), (0, zR (B 300)), (1, zI f)]) dX10_filmsAhead_48 rfl rfl rfl (by decide) rfl ?_
            refine zF_goto 4 dX10_filmsAhead_51 rfl ?_
            exact zF_locs (ls' := [(3, zI ((i + 1 : Nat) : Int)), (2, zI (mAh N f (i + 1))), (0, zR (B 300)), (1, zI f)]) ⟨zlI rfl (by first | rfl | omega | (push_cast; omega) | exact congrArg (_ + ·) (zbT (by assumption)) | exact congrArg (_ + ·) (zbF (by assumption)) | exact congrArg (_ + ·) (zbT (by omega)) | exact congrArg (_ + ·) (zbF (by omega)) | exact congrArg (_ + ·) (if_pos (by omega)).symm | exact congrArg (_ + ·) (if_neg (by omega)).symm | exact (if_pos (by omega)).symm | exact (if_neg (by omega)).symm | exact zsub_s (if_pos (by omega)).symm | exact zsub_s0 (if_neg (by omega)).symm | exact zadd0 (if_neg (by omega)).symm | exact zadd0 (zbF (by omega)) | exact (Int.sub_zero _).symm), zlI rfl (by first | rfl | omega | (push_cast; omega) | exact congrArg (_ + ·) (zbT (by assumption)) | exact congrArg (_ + ·) (zbF (by assumption)) | exact congrArg (_ + ·) (zbT (by omega)) | exact congrArg (_ + ·) (zbF (by omega)) | exact congrArg (_ + ·) (if_pos (by omega)).symm | exact congrArg (_ + ·) (if_neg (by omega)).symm | exact (if_pos (by omega)).symm | exact (if_neg (by omega)).symm | exact zsub_s (if_pos (by omega)).symm | exact zsub_s0 (if_neg (by omega)).symm | exact zadd0 (if_neg (by omega)).symm | exact zadd0 (zbF (by omega)) | exact (Int.sub_zero _).symm), rfl, rfl, trivial⟩ ih4
          · refine zF_iinc 48 (ls' := [(2, zI ((mAh N f i) + 1)), (4, zI ((mRk N (i : Int)) - (mRk N f))), (3, zI (i : Int)), (0, zR (B 300)), (1, zI f)]) dX10_filmsAhead_45 rfl rfl rfl (by decide) rfl ?_
            refine zF_iinc 51 (ls' := [(3, zI ((i : Int) + 1)), (2, zI ((mAh N f i) + 1)), (4, zI ((mRk N (i : Int)) - (mRk N f))), (0, zR (B 300)), (1, zI f)]) dX10_filmsAhead_48 rfl rfl rfl (by decide) rfl ?_
            refine zF_goto 4 dX10_filmsAhead_51 rfl ?_
            exact zF_locs (ls' := [(3, zI ((i + 1 : Nat) : Int)), (2, zI (mAh N f (i + 1))), (0, zR (B 300)), (1, zI f)]) ⟨zlI rfl (by first | rfl | omega | (push_cast; omega) | exact congrArg (_ + ·) (zbT (by assumption)) | exact congrArg (_ + ·) (zbF (by assumption)) | exact congrArg (_ + ·) (zbT (by omega)) | exact congrArg (_ + ·) (zbF (by omega)) | exact congrArg (_ + ·) (if_pos (by omega)).symm | exact congrArg (_ + ·) (if_neg (by omega)).symm | exact (if_pos (by omega)).symm | exact (if_neg (by omega)).symm | exact zsub_s (if_pos (by omega)).symm | exact zsub_s0 (if_neg (by omega)).symm | exact zadd0 (if_neg (by omega)).symm | exact zadd0 (zbF (by omega)) | exact (Int.sub_zero _).symm), zlI rfl (by first | rfl | omega | (push_cast; omega) | exact congrArg (_ + ·) (zbT (by assumption)) | exact congrArg (_ + ·) (zbF (by assumption)) | exact congrArg (_ + ·) (zbT (by omega)) | exact congrArg (_ + ·) (zbF (by omega)) | exact congrArg (_ + ·) (if_pos (by omega)).symm | exact congrArg (_ + ·) (if_neg (by omega)).symm | exact (if_pos (by omega)).symm | exact (if_neg (by omega)).symm | exact zsub_s (if_pos (by omega)).symm | exact zsub_s0 (if_neg (by omega)).symm | exact zadd0 (if_neg (by omega)).symm | exact zadd0 (zbF (by omega)) | exact (Int.sub_zero _).symm), rfl, rfl, trivial⟩ ih4
  · show zF G mX10_filmsAhead d 4 [(3, zI (((nF N) : Nat) : Int)), (2, zI (mAh N f (nF N))), (0, zR (B 300)), (1, zI f)] [] σ _
    have q3 := mAh_b N f (nF N)
    refine zF_iload_n 5 dX10_filmsAhead_4 rfl rfl ?_
    refine zF_aload_n 6 dX10_filmsAhead_5 rfl rfl ?_
    refine zF_getR 9 dX10_filmsAhead_6 rfl gX10_18 hB.wk.1 hB.wk.2.1 hB.wk.2.2.1 ?_
    refine zF_getI 12 dX10_filmsAhead_9 rfl gX10_38 (by decide) (by decide) hB.ch.1 hB.ch.2.1 hR.c.1.2.2 ?_
    refine zF_icmp_ge 54 15 dX10_filmsAhead_12 rfl rfl (by first | decide | assumption | exact hb _ | exact mSh_rg hb _ _ | exact zb_rg _ | (constructor <;> omega)) (by first | decide | assumption | exact hb _ | exact mSh_rg hb _ _ | exact zb_rg _ | (constructor <;> omega)) (fun c5 => ?_) (fun c5 => ?_)
    · refine zF_iload_n 55 dX10_filmsAhead_54 rfl rfl ?_
      exact zF_iretP dX10_filmsAhead_55 rfl (rfl)
    · exact absurd c5 (by omega)
theorem zt_X10_filmAtPlace {p : Int} (hB : cM σ B) (hR : cR N σ B) (hV : mV N) (hW : mW N) (hX : mX N) (hQ : mQ N) (zp : zrg p) : zE G mX10_filmAtPlace (d + 4) [zR (B 300), zI p] σ (fun ro σ1 => ro = .inl (some (zI (mCh N p))) ∧ zFr (fun y _ => y = B 303) σ σ1 ∧ True) := by
  refine zE_of rfl (by simp [zcat]) (Nat.le_of_ble_eq_true rfl) ?_
  show zF G mX10_filmAtPlace (d + 4) 0 [(0, zR (B 300)), (1, zI p)] [] σ _
  have hb := hV.b
  have hn := hV.n
  have hf := nF_eq hV
  refine zF_iconst 1 dX10_filmAtPlace_0 rfl ?_
  refine zF_istore_n 2 (ls' := [(2, zI 0), (0, zR (B 300)), (1, zI p)]) dX10_filmAtPlace_1 rfl (by decide) rfl ?_
  refine zF_locs (ls' := [(2, zI ((0 : Nat) : Int)), (0, zR (B 300)), (1, zI p)]) ⟨zlI rfl (by first | rfl | omega | (push_cast; omega) | exact congrArg (_ + ·) (zbT (by assumption)) | exact congrArg (_ + ·) (zbF (by assumption)) | exact congrArg (_ + ·) (zbT (by omega)) | exact congrArg (_ + ·) (zbF (by omega)) | exact congrArg (_ + ·) (if_pos (by omega)).symm | exact congrArg (_ + ·) (if_neg (by omega)).symm | exact (if_pos (by omega)).symm | exact (if_neg (by omega)).symm | exact zsub_s (if_pos (by omega)).symm | exact zsub_s0 (if_neg (by omega)).symm | exact zadd0 (if_neg (by omega)).symm | exact zadd0 (zbF (by omega)) | exact (Int.sub_zero _).symm), rfl, rfl, trivial⟩ ?_
  refine zF_while (X := Nat) (fun x => nF N - x) (fun x σ2 => x ≤ nF N ∧ zFr (fun y _ => y = B 303) σ σ2 ∧ ∀ f : Int, 0 ≤ f → f < (x : Int) → zia σ2 (B 303) f = mRk N f) (fun x => [(2, zI ((x : Nat) : Int)), (0, zR (B 300)), (1, zI p)]) ?_ 0 σ (⟨by omega, zFr.rf, fun f a b => absurd b (by omega)⟩)
  intro x σ2 hI2 ih2
  show zF G mX10_filmAtPlace (d + 4) 2 [(2, zI ((x : Nat) : Int)), (0, zR (B 300)), (1, zI p)] [] σ2 _
  obtain ⟨hx, fr2, hK⟩ := hI2
  have hB2 := cM_fr hB fr2
  have hR2 := cR_fr hB fr2 (fun i j hi q => by have := hB.inj _ _ q; omega) hR
  refine zF_iload_n 3 dX10_filmAtPlace_2 rfl rfl ?_
  refine zF_aload_n 4 dX10_filmAtPlace_3 rfl rfl ?_
  refine zF_getR 7 dX10_filmAtPlace_4 rfl gX10_18 hB2.wk.1 hB2.wk.2.1 hB2.wk.2.2.1 ?_
  refine zF_getI 10 dX10_filmAtPlace_7 rfl gX10_38 (by decide) (by decide) hB2.ch.1 hB2.ch.2.1 hR2.c.1.2.2 ?_
  refine zF_icmp_ge 40 13 dX10_filmAtPlace_10 rfl rfl (by first | decide | assumption | exact hb _ | exact mSh_rg hb _ _ | exact zb_rg _ | (constructor <;> omega)) (by first | decide | assumption | exact hb _ | exact mSh_rg hb _ _ | exact zb_rg _ | (constructor <;> omega)) (fun c1 => ?_) (fun c1 => ?_)
  · refine zF_iconst 41 dX10_filmAtPlace_40 rfl ?_
    refine zF_istore_n 42 (ls' := [(2, zI 0), (0, zR (B 300)), (1, zI p)]) dX10_filmAtPlace_41 rfl (by decide) rfl ?_
    refine zF_locs (ls' := [(2, zI ((0 : Nat) : Int)), (0, zR (B 300)), (1, zI p)]) ⟨zlI rfl (by first | rfl | omega | (push_cast; omega) | exact congrArg (_ + ·) (zbT (by assumption)) | exact congrArg (_ + ·) (zbF (by assumption)) | exact congrArg (_ + ·) (zbT (by omega)) | exact congrArg (_ + ·) (zbF (by omega)) | exact congrArg (_ + ·) (if_pos (by omega)).symm | exact congrArg (_ + ·) (if_neg (by omega)).symm | exact (if_pos (by omega)).symm | exact (if_neg (by omega)).symm | exact zsub_s (if_pos (by omega)).symm | exact zsub_s0 (if_neg (by omega)).symm | exact zadd0 (if_neg (by omega)).symm | exact zadd0 (zbF (by omega)) | exact (Int.sub_zero _).symm), rfl, rfl, trivial⟩ ?_
    refine zF_while (X := Nat) (fun x => nF N - x) (fun x σ3 => x ≤ nF N ∧ σ3 = σ2 ∧ ∀ f : Nat, f < x → mAh N f (nF N) ≠ p) (fun x => [(2, zI ((x : Nat) : Int)), (0, zR (B 300)), (1, zI p)]) ?_ 0 σ2 (⟨by omega, rfl, fun f hf => absurd hf (by omega)⟩)
    intro y σ3 hI42 ih42
    show zF G mX10_filmAtPlace (d + 4) 42 [(2, zI ((y : Nat) : Int)), (0, zR (B 300)), (1, zI p)] [] σ3 _
    obtain ⟨hy, e3, hno⟩ := hI42
    subst e3
    have hK2 : ∀ f : Int, 0 ≤ f → f < N 2 → zia σ3 (B 303) f = mRk N f := fun f a b => hK f a (by omega)
    refine zF_iload_n 43 dX10_filmAtPlace_42 rfl rfl ?_
    refine zF_aload_n 44 dX10_filmAtPlace_43 rfl rfl ?_
    refine zF_getR 47 dX10_filmAtPlace_44 rfl gX10_18 hB2.wk.1 hB2.wk.2.1 hB2.wk.2.2.1 ?_
    refine zF_getI 50 dX10_filmAtPlace_47 rfl gX10_38 (by decide) (by decide) hB2.ch.1 hB2.ch.2.1 hR2.c.1.2.2 ?_
    refine zF_icmp_ge 70 53 dX10_filmAtPlace_50 rfl rfl (by first | decide | assumption | exact hb _ | exact mSh_rg hb _ _ | exact zb_rg _ | (constructor <;> omega)) (by first | decide | assumption | exact hb _ | exact mSh_rg hb _ _ | exact zb_rg _ | (constructor <;> omega)) (fun c2 => ?_) (fun c2 => ?_)
    · refine zF_iconst 71 dX10_filmAtPlace_70 rfl ?_
      exact zF_ireturn dX10_filmAtPlace_71 rfl (⟨congrArg (fun z => Sum.inl (some (zI z))) (mChN_no fun f hf => hno f (by omega)).symm, fr2, trivial⟩)
    · have qa := mAh_b N (y : Int) (nF N)
      refine zF_aload_n 54 dX10_filmAtPlace_53 rfl rfl ?_
      refine zF_iload_n 55 dX10_filmAtPlace_54 rfl rfl ?_
      refine zF_callVi 58 (d2 := (d + 3)) (as := [zI ((y : Nat) : Int)]) dX10_filmAtPlace_55 rfl kX10_132 iX10_filmsAhead (ci := 10) rfl eX10_filmsAhead (Nat.le_refl _) hB2.wk.1 hB2.wk.2.1 rfl rfl (Nat.le_of_ble_eq_true rfl) (zt_X10_filmsAhead hB2 hR2 hV hW hQ hK2 (by omega) (by omega)) ?_
      refine zF_iload_n 59 dX10_filmAtPlace_58 rfl rfl ?_
      refine zF_icmp_ne 64 62 dX10_filmAtPlace_59 rfl rfl (by first | decide | assumption | exact hb _ | exact mSh_rg hb _ _ | exact zb_rg _ | (constructor <;> omega)) (by first | decide | assumption | exact hb _ | exact mSh_rg hb _ _ | exact zb_rg _ | (constructor <;> omega)) (fun c3 => ?_) (fun c3 => ?_)
      · refine zF_iinc 67 (ls' := [(2, zI (((y : Nat) : Int) + 1)), (0, zR (B 300)), (1, zI p)]) dX10_filmAtPlace_64 rfl rfl rfl (by decide) rfl ?_
        refine zF_goto 42 dX10_filmAtPlace_67 rfl ?_
        exact zF_locs (ls' := [(2, zI (((y + 1) : Nat) : Int)), (0, zR (B 300)), (1, zI p)]) ⟨zlI rfl (by first | rfl | omega | (push_cast; omega) | exact congrArg (_ + ·) (zbT (by assumption)) | exact congrArg (_ + ·) (zbF (by assumption)) | exact congrArg (_ + ·) (zbT (by omega)) | exact congrArg (_ + ·) (zbF (by omega)) | exact congrArg (_ + ·) (if_pos (by omega)).symm | exact congrArg (_ + ·) (if_neg (by omega)).symm | exact (if_pos (by omega)).symm | exact (if_neg (by omega)).symm | exact zsub_s (if_pos (by omega)).symm | exact zsub_s0 (if_neg (by omega)).symm | exact zadd0 (if_neg (by omega)).symm | exact zadd0 (zbF (by omega)) | exact (Int.sub_zero _).symm), rfl, rfl, trivial⟩ (ih42 (y + 1) _ (by omega) (⟨by omega, rfl, fun f hf => by
            by_cases e : f = y
            · subst e; assumption
            · exact hno f (by omega)⟩))
      · refine zF_iload_n 63 dX10_filmAtPlace_62 rfl rfl ?_
        exact zF_ireturn dX10_filmAtPlace_63 rfl (⟨congrArg (fun z => Sum.inl (some (zI z))) (mChN_at (by omega) hno (by omega)).symm, fr2, trivial⟩)
  · refine zF_aload_n 14 dX10_filmAtPlace_13 rfl rfl ?_
    refine zF_getR 17 dX10_filmAtPlace_14 rfl gX10_15 hB2.wk.1 hB2.wk.2.1 (cB_303 hB2).1 ?_
    refine zF_iload_n 18 dX10_filmAtPlace_17 rfl rfl ?_
    refine zF_aload_n 19 dX10_filmAtPlace_18 rfl rfl ?_
    refine zF_getR 22 dX10_filmAtPlace_19 rfl gX10_22 hB2.wk.1 hB2.wk.2.1 hB2.wk.2.2.2.1 ?_
    refine zF_getR 25 dX10_filmAtPlace_22 rfl gX10_127 hB2.st.1 hB2.st.2.1 (cB_212 hB2).1 ?_
    refine zF_iload_n 26 dX10_filmAtPlace_25 rfl rfl ?_
    refine zF_iaload 27 dX10_filmAtPlace_26 rfl (cB_212 hB2).2.2 (cB_212 hB2).2.1 (by omega) (by omega) (hR2.s.2.2.2.1 _ (by omega) (by omega)).2.2.1 ?_
    refine zF_aload_n 28 dX10_filmAtPlace_27 rfl rfl ?_
    refine zF_iload_n 29 dX10_filmAtPlace_28 rfl rfl ?_
    refine zF_callVi 32 (d2 := (d + 3)) (as := [zI ((x : Nat) : Int)]) dX10_filmAtPlace_29 rfl kX10_130 iX10_filmTakings (ci := 10) rfl eX10_filmTakings (Nat.le_refl _) hB2.wk.1 hB2.wk.2.1 rfl rfl (Nat.le_of_ble_eq_true rfl) (zt_X10_filmTakings hB2 hR2 hV hX (by first | decide | assumption | exact hb _ | exact mSh_rg hb _ _ | exact zb_rg _ | (constructor <;> omega))) ?_
    refine zF_iadd 33 dX10_filmAtPlace_32 rfl ?_
    refine zF_iastore 34 dX10_filmAtPlace_33 rfl (cB_303 hB2).2.2 (cB_303 hB2).2.1 (by omega) (by omega) ?_
    refine zF_iinc 37 (ls' := [(2, zI (((x : Nat) : Int) + 1)), (0, zR (B 300)), (1, zI p)]) dX10_filmAtPlace_34 rfl rfl rfl (by decide) rfl ?_
    refine zF_goto 2 dX10_filmAtPlace_37 rfl ?_
    exact zF_locs (ls' := [(2, zI (((x + 1) : Nat) : Int)), (0, zR (B 300)), (1, zI p)]) ⟨zlI rfl (by first | rfl | omega | (push_cast; omega) | exact congrArg (_ + ·) (zbT (by assumption)) | exact congrArg (_ + ·) (zbF (by assumption)) | exact congrArg (_ + ·) (zbT (by omega)) | exact congrArg (_ + ·) (zbF (by omega)) | exact congrArg (_ + ·) (if_pos (by omega)).symm | exact congrArg (_ + ·) (if_neg (by omega)).symm | exact (if_pos (by omega)).symm | exact (if_neg (by omega)).symm | exact zsub_s (if_pos (by omega)).symm | exact zsub_s0 (if_neg (by omega)).symm | exact zadd0 (if_neg (by omega)).symm | exact zadd0 (zbF (by omega)) | exact (Int.sub_zero _).symm), rfl, rfl, trivial⟩ (ih2 (x + 1) _ (by omega) (⟨by omega, zFr_si rfl fr2, rk303 hK rfl⟩))
theorem zt_X11_chart {p : Int} (hG : zGd G) (hO : cO σ B) (hR : cR N σ B) (hV : mV N) (hW : mW N) (hX : mX N) (hQ : mQ N) (zp : zrg p) : zE G mX11_chart (d + 8) [zR (B 0), zI p] σ (cop (if 0 ≤ p ∧ p < N 2 then 0 else 1) (mCh N p) B σ) := by
  refine zE_of rfl (by simp [zcat]) (Nat.le_of_ble_eq_true rfl) ?_
  show zF G mX11_chart (d + 8) 0 [(0, zR (B 0)), (1, zI p)] [] σ _
  have hB := hO.1
  have hb := hV.b
  have hn := hV.n
  refine zF_iload_n 1 dX11_chart_0 rfl rfl ?_
  refine zF_if_lt 15 4 dX11_chart_1 rfl rfl (by first | decide | assumption | exact hb _ | exact mSh_rg hb _ _ | exact zb_rg _ | (constructor <;> omega)) (fun c1 => ?_) (fun c1 => ?_)
  · exact zF_throwW hG rfl zrxN0 zrxN1 zrxN2 zrxN5 zatN zckN zinN (by decide) (by decide) rfl (i := 12) rfl dX11_chart_15 dX11_chart_18 dX11_chart_19 dX11_chart_22 dX11_chart_25 (by omega) (Nat.le_of_ble_eq_true rfl) (copN (by repeat (first | rw [if_pos (by omega)] | rw [if_neg (by omega)])))
  · refine zF_iload_n 5 dX11_chart_4 rfl rfl ?_
    refine zF_aload_n 6 dX11_chart_5 rfl rfl ?_
    refine zF_getR 9 dX11_chart_6 rfl gX11_27 hO.2.1 hO.2.2.1 hO.2.2.2.2.2.1 ?_
    refine zF_getI 12 dX11_chart_9 rfl gX11_158 (by decide) (by decide) hB.ch.1 hB.ch.2.1 hR.c.1.2.2 ?_
    refine zF_icmp_lt 26 15 dX11_chart_12 rfl rfl (by first | decide | assumption | exact hb _ | exact mSh_rg hb _ _ | exact zb_rg _ | (constructor <;> omega)) (by first | decide | assumption | exact hb _ | exact mSh_rg hb _ _ | exact zb_rg _ | (constructor <;> omega)) (fun c2 => ?_) (fun c2 => ?_)
    · refine zF_aload_n 27 dX11_chart_26 rfl rfl ?_
      refine zF_getR 30 dX11_chart_27 rfl gX11_43 hO.2.1 hO.2.2.1 hO.2.2.2.2.2.2.2.1 ?_
      refine zF_iload_n 31 dX11_chart_30 rfl rfl ?_
      refine zF_callV 34 (d2 := (d + 7)) (as := [zI p]) dX11_chart_31 rfl kX11_295 iX10_filmAtPlace (ci := 10) rfl eX10_filmAtPlace (Nat.le_refl _) hB.wk.1 hB.wk.2.1 rfl rfl (Nat.le_of_ble_eq_true rfl) (zE.mono (zt_X10_filmAtPlace hB hR hV hW hX hQ (by first | decide | assumption | exact hb _ | exact mSh_rg hb _ _ | exact zb_rg _ | (constructor <;> omega))) fun ro σa1 hh1 => ?_)
      obtain ⟨er1, fr1, _p1⟩ := hh1
      subst er1
      refine ⟨fr1.1, ?_⟩
      show zF G mX11_chart (d + 8) 34 [(0, zR (B 0)), (1, zI p)] [zI (mCh N p)] σa1 _
      exact zF_ireturn dX11_chart_34 rfl (copR (fr1.wk fun y _ q => ⟨⟨303, q, Or.inl rfl⟩, fun z => absurd (hB.inj _ _ (q.symm.trans z.1)) (by decide)⟩) (by repeat (first | rw [if_pos (by omega)] | rw [if_neg (by omega)])) rfl)
    · exact zF_throwW hG rfl zrxN0 zrxN1 zrxN2 zrxN5 zatN zckN zinN (by decide) (by decide) rfl (i := 12) rfl dX11_chart_15 dX11_chart_18 dX11_chart_19 dX11_chart_22 dX11_chart_25 (by omega) (Nat.le_of_ble_eq_true rfl) (copN (by repeat (first | rw [if_pos (by omega)] | rw [if_neg (by omega)])))
end ZC4

/-! the class: a chain's text -/
section ZCL
variable {G : zG} {d : Nat} {σ σ0 σ1 : zMem} {B : Nat → Nat} {t : Int → Int} {L : Nat} {s : tS} {D : Int → Int} {c : Nat → Int → Int}
/-- the reader of chains -/
def cCt (σ : zMem) (B : Nat → Nat) : Prop := zkd σ (B 30) = (0, 2) ∧ B 30 < zn σ ∧ zra σ (B 30) ((0 : Nat) : Int) = some (B 20) ∧ zra σ (B 30) ((1 : Nat) : Int) = some (B 2100) ∧ zra σ (B 30) ((2 : Nat) : Int) = some (B 2200) ∧ cCh σ B 2100 ∧ cSt σ B 2200 ∧ ∀ i j, B i = B j → i = j
theorem cCt.ch (h : cCt σ B) : cCh σ B 2100 := h.2.2.2.2.2.1
theorem cCt.st (h : cCt σ B) : cSt σ B 2200 := h.2.2.2.2.2.2.1
theorem cCt.inj (h : cCt σ B) : ∀ i j, B i = B j → i = j := h.2.2.2.2.2.2.2
theorem cCt_fr {P : Nat → Int → Prop} (h : cCt σ B) (f : zFr P σ σ1) : cCt σ1 B := by
  obtain ⟨f1, f2, f3, -⟩ := f
  unfold cCt cCh cSt at h ⊢
  rw [f1, f2, f3]
  exact h
/-- the draft's cells -/
def CC (σ : zMem) (B : Nat → Nat) (c : Nat → Int → Int) : Prop := ∀ k j, 2100 ≤ k → k < 2216 → zia σ (B k) j = c k j
theorem CC_tk (h : cCt σ B) (f : zFr (PTk B) σ σ1) (hc : CC σ B c) : CC σ1 B c := fun k j a b => (f.2.2.2.2.2 _ _ fun q => by have := h.inj _ _ q.1; omega).trans (hc k j a b)
theorem CC_si {k0 : Nat} {i v : Int} (h : cCt σ B) (hc : CC σ B c) : CC (zsi σ (B k0) i v) B (zup c k0 i v) := fun k j a b => by
  rw [zia_si]
  unfold zup
  by_cases q : k = k0 ∧ j = i
  · rw [if_pos ⟨by rw [q.1], q.2⟩, if_pos q]
  · rw [if_neg (fun z => q ⟨h.inj _ _ z.1, z.2⟩), if_neg q, hc k j a b]
theorem cTs_si {k0 : Nat} {i v : Int} (h : cCt σ B) (k2 : k0 ≠ 20) (hs : cTs σ B t L s) : cTs (zsi σ (B k0) i v) B t L s := by
  have e : zia (zsi σ (B k0) i v) (B 20) = zia σ (B 20) := zsi_at (fun q => k2 (h.inj _ _ q).symm) rfl
  unfold cTs at hs ⊢
  rw [e]; exact hs
theorem cTk_si {k0 : Nat} {i v : Int} (h : cCt σ B) (k2 : k0 ≠ 10) (hs : cTk σ B t L) : cTk (zsi σ (B k0) i v) B t L := by
  have e : zia (zsi σ (B k0) i v) (B 10) = zia σ (B 10) := zsi_at (fun q => k2 (h.inj _ _ q).symm) rfl
  unfold cTk at hs ⊢
  rw [e]; exact hs
def PLd (B : Nat → Nat) (h : Nat) (j : Int) : Prop := PTk B h j ∨ zRg 2100 2216 B h j
theorem PTk_l (f : zFr (PTk B) σ σ1) : zFr (PLd B) σ σ1 := f.wk fun _ _ q => Or.inl q
theorem cTk_l (h : cCt σ B) (hT : cTk σ B t L) (f : zFr (PLd B) σ σ1) : cTk σ1 B t L := cTk_fr hT f fun j q => q.elim (fun q => hT.2.2.2.2.2.1 q.1) (fun ⟨k, a, b, e⟩ => by have := h.inj _ _ e; omega)
theorem cDc_cg {c' : Nat → Int → Int} (h : cDc D c) (e : ∀ k j, 2100 ≤ k → k < 2216 → c' k j = c k j) : cDc D c' := by
  unfold cDc at h ⊢
  have e' : ∀ k, 2100 ≤ k → k < 2216 → c' k = c k := fun k a b => funext fun j => e k j a b
  rw [e' 2100 (by decide) (by decide), e' 2101 (by decide) (by decide), e' 2102 (by decide) (by decide), e' 2203 (by decide) (by decide), e' 2104 (by decide) (by decide), e' 2105 (by decide) (by decide), e' 2106 (by decide) (by decide), e' 2204 (by decide) (by decide), e' 2108 (by decide) (by decide), e' 2109 (by decide) (by decide), e' 2110 (by decide) (by decide), e' 2111 (by decide) (by decide), e' 2211 (by decide) (by decide), e' 2112 (by decide) (by decide), e' 2200 (by decide) (by decide), e' 2205 (by decide) (by decide), e' 2206 (by decide) (by decide), e' 2207 (by decide) (by decide), e' 2208 (by decide) (by decide), e' 2209 (by decide) (by decide), e' 2210 (by decide) (by decide), e' 2212 (by decide) (by decide), e' 2213 (by decide) (by decide), e' 2214 (by decide) (by decide)]
  exact h
/-- the draft in a memory -/
def cDm (D : Int → Int) (σ : zMem) (B : Nat → Nat) : Prop := cDc D fun k j => zia σ (B k) j
theorem cDm_of (h : cDc D c) (hc : CC σ B c) : cDm D σ B := cDc_cg h fun k j a b => hc k j a b
theorem cDm_tk (h : cCt σ B) (f : zFr (PTk B) σ σ1) (hd : cDm D σ B) : cDm D σ1 B := cDm_of hd (CC_tk h f fun _ _ _ _ => rfl)
/-- a house that is full, refused -/
def tRf (t : Int → Int) (L : Nat) (D : Int → Int) (s : tS) : tS := if tKd t L s = 2 ∧ tv t L s.1 < D 0 ∧ ¬ mCn D (tv t L s.1) (nS D) < 4 then tFail 4 s else s
theorem tv_0 (h : s.1 ≤ L) (k : tk t L s.1 = 2) : 0 ≤ tv t L s.1 := by
  obtain ⟨_, _, e, dg⟩ := tk_2 h k
  rw [e]
  exact (tvN_b (t := t) (b := tbg t L s.1) (n := te t L s.1 - tbg t L s.1) fun i a z => dg i a (by have := te_b (t := t) h; omega)).1
theorem tHs_r (h : s.2 = 0) (hq : s.1 ≤ L) : tNumS t L 0 (D 0 - 1) (tRf t L D s) = tHs t L D s := by
  by_cases k : tKd t L s = 2
  · have v0 : 0 ≤ tv t L s.1 := tv_0 hq (by rw [← tKd_0 h]; exact k)
    by_cases c1 : tv t L s.1 < 0 ∨ D 0 - 1 < tv t L s.1
    · have a : tRf t L D s = s := if_neg (fun z => by have := z.2.1; omega)
      have b : tHs t L D s = tFail 2 s := (if_neg (fun z => z k)).trans (if_pos c1)
      rw [a, b]
      exact (if_neg (fun z => z k)).trans (if_pos c1)
    · by_cases c2 : mCn D (tv t L s.1) (nS D) < 4
      · have a : tRf t L D s = s := if_neg (fun z => z.2.2 c2)
        have b : tHs t L D s = tAdv t L s := (if_neg (fun z => z k)).trans ((if_neg c1).trans (if_pos c2))
        rw [a, b]
        exact (if_neg (fun z => z k)).trans (if_neg c1)
      · have a : tRf t L D s = tFail 4 s := if_pos ⟨k, by omega, c2⟩
        have b : tHs t L D s = tFail 4 s := (if_neg (fun z => z k)).trans ((if_neg c1).trans (if_neg c2))
        rw [a, b]
        exact tNumS_e (tFail_2 (by decide))
  · have a : tRf t L D s = s := if_neg (fun z => k z.1)
    have b : tHs t L D s = tFail 1 s := if_pos k
    rw [a, b]
    exact if_pos k
theorem tHs_v (h : s.2 = 0) (e : (tHs t L D s).2 = 0) : tv t L s.1 = tNumV t L 0 (D 0 - 1) (tRf t L D s) := by
  obtain ⟨z, k, a, b, c2⟩ := tHs_2 e
  have k2 : tKd t L s = 2 := by rw [tKd_0 h]; exact k
  unfold tRf
  rw [if_neg (fun q => q.2.2 c2)]
  unfold tNumV
  rw [if_neg (fun q => by rcases q with q | q; exact q k2; omega)]
theorem tNumV_u {lo hi : Int} : tNumV t L lo hi s ≤ max lo hi := by
  unfold tNumV
  split <;> omega
theorem tNumV_l {lo hi : Int} : lo ≤ tNumV t L lo hi s := by
  unfold tNumV
  split <;> omega
theorem ctm_1 {b : Int} : ctm t L c s b 1 = zup c 2112 b (tNumV t L 0 90 s) := by
  show zup c 2112 (b + ((0 : Nat) : Int)) _ = _
  rw [show b + ((0 : Nat) : Int) = b from Int.add_zero b]
  rfl
theorem CC_to {c' : Nat → Int → Int} (h : CC σ B c) (e : c = c') : CC σ B c' := e ▸ h
theorem cTs_to {s' : tS} (h : cTs σ B t L s) (e : s = s') : cTs σ B t L s' := e ▸ h
theorem cX_2101 (h : cCt σ B) : zra σ (B 2100) ((1 : Nat) : Int) = some (B 2101) ∧ B 2101 < zn σ ∧ zkd σ (B 2101) = (1, 4) := h.ch.2.2 1 4 (by decide)
theorem cX_2102 (h : cCt σ B) : zra σ (B 2100) ((2 : Nat) : Int) = some (B 2102) ∧ B 2102 < zn σ ∧ zkd σ (B 2102) = (1, 4) := h.ch.2.2 2 4 (by decide)
theorem cX_2104 (h : cCt σ B) : zra σ (B 2100) ((4 : Nat) : Int) = some (B 2104) ∧ B 2104 < zn σ ∧ zkd σ (B 2104) = (1, 10) := h.ch.2.2 4 10 (by decide)
theorem cX_2105 (h : cCt σ B) : zra σ (B 2100) ((5 : Nat) : Int) = some (B 2105) ∧ B 2105 < zn σ ∧ zkd σ (B 2105) = (1, 10) := h.ch.2.2 5 10 (by decide)
theorem cX_2106 (h : cCt σ B) : zra σ (B 2100) ((6 : Nat) : Int) = some (B 2106) ∧ B 2106 < zn σ ∧ zkd σ (B 2106) = (1, 10) := h.ch.2.2 6 10 (by decide)
theorem cX_2108 (h : cCt σ B) : zra σ (B 2100) ((8 : Nat) : Int) = some (B 2108) ∧ B 2108 < zn σ ∧ zkd σ (B 2108) = (1, 6) := h.ch.2.2 8 6 (by decide)
theorem cX_2109 (h : cCt σ B) : zra σ (B 2100) ((9 : Nat) : Int) = some (B 2109) ∧ B 2109 < zn σ ∧ zkd σ (B 2109) = (1, 6) := h.ch.2.2 9 6 (by decide)
theorem cX_2110 (h : cCt σ B) : zra σ (B 2100) ((10 : Nat) : Int) = some (B 2110) ∧ B 2110 < zn σ ∧ zkd σ (B 2110) = (1, 6) := h.ch.2.2 10 6 (by decide)
theorem cX_2111 (h : cCt σ B) : zra σ (B 2100) ((11 : Nat) : Int) = some (B 2111) ∧ B 2111 < zn σ ∧ zkd σ (B 2111) = (1, 6) := h.ch.2.2 11 6 (by decide)
theorem cX_2112 (h : cCt σ B) : zra σ (B 2100) ((12 : Nat) : Int) = some (B 2112) ∧ B 2112 < zn σ ∧ zkd σ (B 2112) = (1, 24) := h.ch.2.2 12 24 (by decide)
theorem cX_2203 (h : cCt σ B) : zra σ (B 2200) ((3 : Nat) : Int) = some (B 2203) ∧ B 2203 < zn σ ∧ zkd σ (B 2203) = (1, 4) := h.st.2.2 3 4 (by decide)
theorem cX_2204 (h : cCt σ B) : zra σ (B 2200) ((4 : Nat) : Int) = some (B 2204) ∧ B 2204 < zn σ ∧ zkd σ (B 2204) = (1, 10) := h.st.2.2 4 10 (by decide)
theorem cX_2205 (h : cCt σ B) : zra σ (B 2200) ((5 : Nat) : Int) = some (B 2205) ∧ B 2205 < zn σ ∧ zkd σ (B 2205) = (1, 30) := h.st.2.2 5 30 (by decide)
theorem cX_2206 (h : cCt σ B) : zra σ (B 2200) ((6 : Nat) : Int) = some (B 2206) ∧ B 2206 < zn σ ∧ zkd σ (B 2206) = (1, 10) := h.st.2.2 6 10 (by decide)
theorem cX_2207 (h : cCt σ B) : zra σ (B 2200) ((7 : Nat) : Int) = some (B 2207) ∧ B 2207 < zn σ ∧ zkd σ (B 2207) = (1, 10) := h.st.2.2 7 10 (by decide)
theorem cX_2208 (h : cCt σ B) : zra σ (B 2200) ((8 : Nat) : Int) = some (B 2208) ∧ B 2208 < zn σ ∧ zkd σ (B 2208) = (1, 10) := h.st.2.2 8 10 (by decide)
theorem cX_2209 (h : cCt σ B) : zra σ (B 2200) ((9 : Nat) : Int) = some (B 2209) ∧ B 2209 < zn σ ∧ zkd σ (B 2209) = (1, 10) := h.st.2.2 9 10 (by decide)
theorem cX_2210 (h : cCt σ B) : zra σ (B 2200) ((10 : Nat) : Int) = some (B 2210) ∧ B 2210 < zn σ ∧ zkd σ (B 2210) = (1, 6) := h.st.2.2 10 6 (by decide)
theorem cX_2211 (h : cCt σ B) : zra σ (B 2200) ((11 : Nat) : Int) = some (B 2211) ∧ B 2211 < zn σ ∧ zkd σ (B 2211) = (1, 6) := h.st.2.2 11 6 (by decide)
theorem cX_2212 (h : cCt σ B) : zra σ (B 2200) ((12 : Nat) : Int) = some (B 2212) ∧ B 2212 < zn σ ∧ zkd σ (B 2212) = (1, 6) := h.st.2.2 12 6 (by decide)
theorem cX_2213 (h : cCt σ B) : zra σ (B 2200) ((13 : Nat) : Int) = some (B 2213) ∧ B 2213 < zn σ ∧ zkd σ (B 2213) = (1, 24) := h.st.2.2 13 24 (by decide)
theorem cX_2214 (h : cCt σ B) : zra σ (B 2200) ((14 : Nat) : Int) = some (B 2214) ∧ B 2214 < zn σ ∧ zkd σ (B 2214) = (1, 4) := h.st.2.2 14 4 (by decide)
theorem cX_2215 (h : cCt σ B) : zra σ (B 2200) ((15 : Nat) : Int) = some (B 2215) ∧ B 2215 < zn σ ∧ zkd σ (B 2215) = (1, 100) := h.st.2.2 15 100 (by decide)
theorem zt_X2_readHouse  (hG : zOS G) (hk : cCt σ B) (hT : cTk σ B t L) (hs : cTs σ B t L s) (hd : cDm D σ B) (hv : ldV D) (h0 : s.2 = 0) : zE G mX2_readHouse (d + 6) [zR (B 30)] σ (fun ro σ1 => ro = .inl none ∧ zFr (PLd B) σ σ1 ∧ cTs σ1 B t L (tSgS t L 59 (ldHouse t L (s, D)).1) ∧ ((tSgS t L 59 (ldHouse t L (s, D)).1).2 = 0 → cDm (ldHouse t L (s, D)).2 σ1 B)) := by
  refine zE_of rfl (by simp [zcat]) (Nat.le_of_ble_eq_true rfl) ?_
  show zF G mX2_readHouse (d + 6) 0 [(0, zR (B 30))] [] σ _
  have hn := hv.n
  have hL7 : L ≤ 700 := hT.2.2.2.2.2.2.1
  have hC : CC σ B (fun k j => zia σ (B k) j) := fun _ _ _ _ => rfl
  have es := hs.2.2.2.2.2.2.2.2
  refine zF_aload_n 1 dX2_readHouse_0 rfl rfl ?_
  refine zF_getR 4 dX2_readHouse_1 rfl gX2_12 hk.1 hk.2.1 hk.2.2.2.1 ?_
  refine zF_getI 7 dX2_readHouse_4 rfl gX2_81 (by decide) (by decide) hk.ch.1 hk.ch.2.1 (show zia σ (B 2100) 0 = (D 0) from ((hC 2100 0 (by decide) (by decide)).trans hd.1.1)) ?_
  refine zF_istore_n 8 (ls' := [(1, zI (D 0)), (0, zR (B 30))]) dX2_readHouse_7 rfl (by decide) rfl ?_
  refine zF_iload_n 9 dX2_readHouse_8 rfl rfl ?_
  refine zF_iconst 10 dX2_readHouse_9 rfl ?_
  refine zF_icmp_lt 22 13 dX2_readHouse_10 rfl rfl (by first | decide | assumption | exact hv.b _ | (constructor <;> omega)) (by first | decide | assumption | exact hv.b _ | (constructor <;> omega)) (fun c1 => ?_) (fun c1 => ?_)
  · refine zF_aload_n 23 dX2_readHouse_22 rfl rfl ?_
    refine zF_getR 26 dX2_readHouse_23 rfl gX2_25 hk.1 hk.2.1 hk.2.2.1 ?_
    refine zF_callV 29 (d2 := (d + 5)) (as := []) dX2_readHouse_26 rfl kX2_84 iX9_advance (ci := 9) rfl eX9_advance (Nat.le_refl _) hT.1 hT.2.1 rfl rfl (Nat.le_of_ble_eq_true rfl) (zE.mono (zt_X9_adv (σ := σ) hT hs h0) fun ro σa1 hh1 => ?_)
    obtain ⟨er1, fr1, p1⟩ := hh1
    subst er1
    refine ⟨fr1.1, ?_⟩
    show zF G mX2_readHouse (d + 6) 29 [(1, zI (D 0)), (0, zR (B 30))] [] σa1 _
    have hk1a := cCt_fr (σ := σ) hk fr1
    have hT1a := cTk_ad (σ := σ) hT fr1
    have hs1a : cTs σa1 B t L (tAdv t L s) := p1
    have hC1a : CC σa1 B (fun k j => zia σ (B k) j) := CC_tk (σ := σ) hk fr1 hC
    have eb1 := hs1a.2.2.2.2.2.2.2.2
    refine zF_aload_n 30 dX2_readHouse_29 rfl rfl ?_
    refine zF_getR 33 dX2_readHouse_30 rfl gX2_12 hk1a.1 hk1a.2.1 hk1a.2.2.2.1 ?_
    refine zF_getR 36 dX2_readHouse_33 rfl gX2_87 hk1a.ch.1 hk1a.ch.2.1 (cX_2101 hk1a).1 ?_
    refine zF_iload_n 37 dX2_readHouse_36 rfl rfl ?_
    refine zF_aload_n 38 dX2_readHouse_37 rfl rfl ?_
    refine zF_getR 41 dX2_readHouse_38 rfl gX2_25 hk1a.1 hk1a.2.1 hk1a.2.2.1 ?_
    refine zF_iconst 42 dX2_readHouse_41 rfl ?_
    refine zF_bipush 44 dX2_readHouse_42 rfl (by decide) ?_
    refine zF_callV 47 (d2 := (d + 5)) (as := [zI 1, zI 99]) dX2_readHouse_44 rfl kX2_91 iX9_takeNumber (ci := 9) rfl eX9_takeNumber (Nat.le_refl _) hT1a.1 hT1a.2.1 rfl rfl (Nat.le_of_ble_eq_true rfl) (zE.mono (zt_X9_takeNumber (σ := σa1) hT1a hs1a (by first | decide | assumption | exact hv.b _ | (constructor <;> omega)) (by first | decide | assumption | exact hv.b _ | (constructor <;> omega))) fun ro σa2 hh2 => ?_)
    obtain ⟨er2, fr2, p2⟩ := hh2
    subst er2
    refine ⟨fr2.1, ?_⟩
    show zF G mX2_readHouse (d + 6) 47 [(1, zI (D 0)), (0, zR (B 30))] [zI (tNumV t L 1 99 (tAdv t L s)), zI (D 0), zR (B 2101)] σa2 _
    have hk2a := cCt_fr (σ := σa1) hk1a fr2
    have hT2a := cTk_ad (σ := σa1) hT1a fr2
    have hs2a : cTs σa2 B t L (tNumS t L 1 99 (tAdv t L s)) := p2
    have hC2a : CC σa2 B (fun k j => zia σ (B k) j) := CC_tk (σ := σa1) hk1a fr2 hC1a
    have eb2 := hs2a.2.2.2.2.2.2.2.2
    refine zF_iastore 48 dX2_readHouse_47 rfl (cX_2101 hk2a).2.2 (cX_2101 hk2a).2.1 (by omega) (by omega) ?_
    refine zF_aload_n 49 dX2_readHouse_48 rfl rfl ?_
    refine zF_getR 52 dX2_readHouse_49 rfl gX2_12 hk2a.1 hk2a.2.1 hk2a.2.2.2.1 ?_
    refine zF_getR 55 dX2_readHouse_52 rfl gX2_95 hk2a.ch.1 hk2a.ch.2.1 (cX_2102 hk2a).1 ?_
    refine zF_iload_n 56 dX2_readHouse_55 rfl rfl ?_
    refine zF_iconst 57 dX2_readHouse_56 rfl ?_
    refine zF_iastore 58 dX2_readHouse_57 rfl (cX_2102 hk2a).2.2 (cX_2102 hk2a).2.1 (by omega) (by omega) ?_
    refine zF_aload_n 59 dX2_readHouse_58 rfl rfl ?_
    refine zF_getR 62 dX2_readHouse_59 rfl gX2_21 hk2a.1 hk2a.2.1 hk2a.2.2.2.2.1 ?_
    refine zF_getR 65 dX2_readHouse_62 rfl gX2_98 hk2a.st.1 hk2a.st.2.1 (cX_2203 hk2a).1 ?_
    refine zF_iload_n 66 dX2_readHouse_65 rfl rfl ?_
    refine zF_aload_n 67 dX2_readHouse_66 rfl rfl ?_
    refine zF_getR 70 dX2_readHouse_67 rfl gX2_25 hk2a.1 hk2a.2.1 hk2a.2.2.1 ?_
    refine zF_iconst 71 dX2_readHouse_70 rfl ?_
    refine zF_bipush 73 dX2_readHouse_71 rfl (by decide) ?_
    refine zF_callV 76 (d2 := (d + 5)) (as := [zI 1, zI 100]) dX2_readHouse_73 rfl kX2_91 iX9_takeNumber (ci := 9) rfl eX9_takeNumber (Nat.le_refl _) (cTk_si (σ := (zsi σa2 (B 2101) (D 0) (tNumV t L 1 99 (tAdv t L s)))) (k0 := 2102) hk2a (by decide) (cTk_si (σ := σa2) (k0 := 2101) hk2a (by decide) hT2a)).1 (cTk_si (σ := (zsi σa2 (B 2101) (D 0) (tNumV t L 1 99 (tAdv t L s)))) (k0 := 2102) hk2a (by decide) (cTk_si (σ := σa2) (k0 := 2101) hk2a (by decide) hT2a)).2.1 rfl rfl (Nat.le_of_ble_eq_true rfl) (zE.mono (zt_X9_takeNumber (σ := (zsi (zsi σa2 (B 2101) (D 0) (tNumV t L 1 99 (tAdv t L s))) (B 2102) (D 0) 0)) (cTk_si (σ := (zsi σa2 (B 2101) (D 0) (tNumV t L 1 99 (tAdv t L s)))) (k0 := 2102) hk2a (by decide) (cTk_si (σ := σa2) (k0 := 2101) hk2a (by decide) hT2a)) (cTs_si (σ := (zsi σa2 (B 2101) (D 0) (tNumV t L 1 99 (tAdv t L s)))) (k0 := 2102) hk2a (by decide) (cTs_si (σ := σa2) (k0 := 2101) hk2a (by decide) hs2a)) (by first | decide | assumption | exact hv.b _ | (constructor <;> omega)) (by first | decide | assumption | exact hv.b _ | (constructor <;> omega))) fun ro σa3 hh3 => ?_)
    obtain ⟨er3, fr3, p3⟩ := hh3
    subst er3
    refine ⟨fr3.1, ?_⟩
    show zF G mX2_readHouse (d + 6) 76 [(1, zI (D 0)), (0, zR (B 30))] [zI (tNumV t L 1 100 (tNumS t L 1 99 (tAdv t L s))), zI (D 0), zR (B 2203)] σa3 _
    have hk3a := cCt_fr (σ := (zsi (zsi σa2 (B 2101) (D 0) (tNumV t L 1 99 (tAdv t L s))) (B 2102) (D 0) 0)) hk2a fr3
    have hT3a := cTk_ad (σ := (zsi (zsi σa2 (B 2101) (D 0) (tNumV t L 1 99 (tAdv t L s))) (B 2102) (D 0) 0)) (cTk_si (σ := (zsi σa2 (B 2101) (D 0) (tNumV t L 1 99 (tAdv t L s)))) (k0 := 2102) hk2a (by decide) (cTk_si (σ := σa2) (k0 := 2101) hk2a (by decide) hT2a)) fr3
    have hs3a : cTs σa3 B t L (tNumS t L 1 100 (tNumS t L 1 99 (tAdv t L s))) := p3
    have hC3a : CC σa3 B (zup (zup (fun k j => zia σ (B k) j) 2101 (D 0) (tNumV t L 1 99 (tAdv t L s))) 2102 (D 0) 0) := CC_tk (σ := (zsi (zsi σa2 (B 2101) (D 0) (tNumV t L 1 99 (tAdv t L s))) (B 2102) (D 0) 0)) hk2a fr3 (CC_si (σ := (zsi σa2 (B 2101) (D 0) (tNumV t L 1 99 (tAdv t L s)))) (k0 := 2102) hk2a (CC_si (σ := σa2) (k0 := 2101) hk2a hC2a))
    have eb3 := hs3a.2.2.2.2.2.2.2.2
    refine zF_iastore 77 dX2_readHouse_76 rfl (cX_2203 hk3a).2.2 (cX_2203 hk3a).2.1 (by omega) (by omega) ?_
    refine zF_aload_n 78 dX2_readHouse_77 rfl rfl ?_
    refine zF_getR 81 dX2_readHouse_78 rfl gX2_25 hk3a.1 hk3a.2.1 hk3a.2.2.1 ?_
    refine zF_bipush 83 dX2_readHouse_81 rfl (by decide) ?_
    refine zF_callV 86 (d2 := (d + 5)) (as := [zI 59]) dX2_readHouse_83 rfl kX2_101 iX9_takeSign (ci := 9) rfl eX9_takeSign (Nat.le_refl _) (cTk_si (σ := σa3) (k0 := 2203) hk3a (by decide) hT3a).1 (cTk_si (σ := σa3) (k0 := 2203) hk3a (by decide) hT3a).2.1 rfl rfl (Nat.le_of_ble_eq_true rfl) (zE.mono (zt_X9_takeSign (σ := (zsi σa3 (B 2203) (D 0) (tNumV t L 1 100 (tNumS t L 1 99 (tAdv t L s))))) (cTk_si (σ := σa3) (k0 := 2203) hk3a (by decide) hT3a) (cTs_si (σ := σa3) (k0 := 2203) hk3a (by decide) hs3a) (by decide)) fun ro σa4 hh4 => ?_)
    obtain ⟨er4, fr4, p4⟩ := hh4
    subst er4
    refine ⟨fr4.1, ?_⟩
    show zF G mX2_readHouse (d + 6) 86 [(1, zI (D 0)), (0, zR (B 30))] [] σa4 _
    have hk4a := cCt_fr (σ := (zsi σa3 (B 2203) (D 0) (tNumV t L 1 100 (tNumS t L 1 99 (tAdv t L s))))) hk3a fr4
    have hT4a := cTk_ad (σ := (zsi σa3 (B 2203) (D 0) (tNumV t L 1 100 (tNumS t L 1 99 (tAdv t L s))))) (cTk_si (σ := σa3) (k0 := 2203) hk3a (by decide) hT3a) fr4
    have hs4a : cTs σa4 B t L (tSgS t L 59 (tNumS t L 1 100 (tNumS t L 1 99 (tAdv t L s)))) := p4
    have hC4a : CC σa4 B (zup (zup (zup (fun k j => zia σ (B k) j) 2101 (D 0) (tNumV t L 1 99 (tAdv t L s))) 2102 (D 0) 0) 2203 (D 0) (tNumV t L 1 100 (tNumS t L 1 99 (tAdv t L s)))) := CC_tk (σ := (zsi σa3 (B 2203) (D 0) (tNumV t L 1 100 (tNumS t L 1 99 (tAdv t L s))))) hk3a fr4 (CC_si (σ := σa3) (k0 := 2203) hk3a hC3a)
    have eb4 := hs4a.2.2.2.2.2.2.2.2
    refine zF_aload_n 87 dX2_readHouse_86 rfl rfl ?_
    refine zF_getR 90 dX2_readHouse_87 rfl gX2_12 hk4a.1 hk4a.2.1 hk4a.2.2.2.1 ?_
    refine zF_dup 91 dX2_readHouse_90 rfl rfl ?_
    refine zF_getI 94 dX2_readHouse_91 rfl gX2_81 (by decide) (by decide) hk4a.ch.1 hk4a.ch.2.1 (show zia σa4 (B 2100) 0 = (D 0) from (((((hC4a 2100 0 (by decide) (by decide)).trans (zup_n (by decide))).trans (zup_n (by decide))).trans (zup_n (by decide))).trans hd.1.1)) ?_
    refine zF_iconst 95 dX2_readHouse_94 rfl ?_
    refine zF_iadd 96 dX2_readHouse_95 rfl ?_
    refine zF_putI 99 dX2_readHouse_96 rfl pX2_readHouse_81 (Or.inl rfl) hk4a.ch.1 hk4a.ch.2.1 ?_
    exact zF_return dX2_readHouse_99 rfl ((by
    have e : ldHouse t L (s, D) = (tNumS t L 1 100 (tNumS t L 1 99 (tAdv t L s)), mSet (mSet (mSet D (6 + 2 * D 0 + 0) (tNumV t L 1 99 (tAdv t L s))) (6 + 2 * D 0 + 1) (tNumV t L 1 100 (tNumS t L 1 99 (tAdv t L s)))) 0 (D 0 + 1)) := if_pos (by show D 0 < 4; omega)
    rw [e]
    exact ⟨rfl, (zFr_si (Or.inr ⟨2100, by decide, by decide, rfl⟩) ((zFr_si (Or.inr ⟨2203, by decide, by decide, rfl⟩) ((zFr_si (Or.inr ⟨2102, by decide, by decide, rfl⟩) (zFr_si (Or.inr ⟨2101, by decide, by decide, rfl⟩) ((PTk_l fr1).tr (PTk_l fr2)))).tr (PTk_l fr3))).tr (PTk_l fr4))), (cTs_si (σ := σa4) (k0 := 2100) hk4a (by decide) hs4a), fun _ => cDm_of (cD_house hd hv (by omega)) (CC_si (σ := σa4) (k0 := 2100) hk4a hC4a)⟩))
  · refine zF_aload_n 14 dX2_readHouse_13 rfl rfl ?_
    refine zF_getR 17 dX2_readHouse_14 rfl gX2_25 hk.1 hk.2.1 hk.2.2.1 ?_
    refine zF_iconst 18 dX2_readHouse_17 rfl ?_
    refine zF_callV 21 (d2 := (d + 5)) (as := [zI 3]) dX2_readHouse_18 rfl kX2_78 iX9_fail (ci := 9) rfl eX9_fail (Nat.le_refl _) hT.1 hT.2.1 rfl rfl (Nat.le_of_ble_eq_true rfl) (zE.mono (zt_X9_fail (σ := σ) (c := 3) hT hs (by decide) (by decide)) fun ro σa5 hh5 => ?_)
    obtain ⟨er5, fr5, p5⟩ := hh5
    subst er5
    refine ⟨fr5.1, ?_⟩
    show zF G mX2_readHouse (d + 6) 21 [(1, zI (D 0)), (0, zR (B 30))] [] σa5 _
    have hk5a := cCt_fr (σ := σ) hk fr5
    have hT5a := cTk_ad (σ := σ) hT fr5
    have hs5a : cTs σa5 B t L (tFail 3 s) := p5
    have hC5a : CC σa5 B (fun k j => zia σ (B k) j) := CC_tk (σ := σ) hk fr5 hC
    have eb5 := hs5a.2.2.2.2.2.2.2.2
    exact zF_return dX2_readHouse_21 rfl ((by
    have e : ldHouse t L (s, D) = (tFail 3 s, D) := if_neg (by show ¬ D 0 < 4; omega)
    rw [e]
    have e2 : tSgS t L 59 (tFail 3 s) = tFail 3 s := tSgS_e (tFail_2 (by decide))
    refine ⟨rfl, (PTk_l fr5), ?_, fun z => absurd z ?_⟩
    · show cTs _ B t L (tSgS t L 59 (tFail 3 s)); rw [e2]; exact hs5a
    · show ¬ (tSgS t L 59 (tFail 3 s)).2 = 0; rw [e2]; exact tFail_2 (by decide)))
theorem zt_X2_refuseFullHouse (hG : zOS G) (hk : cCt σ B) (hT : cTk σ B t L) (hs : cTs σ B t L s) (hd : cDm D σ B) (hv : ldV D) : zE G mX2_refuseFullHouse (d + 3) [zR (B 30)] σ (fun ro σ1 => ro = .inl none ∧ zFr (PTk B) σ σ1 ∧ cTs σ1 B t L (tRf t L D s)) := by
  refine zE_of rfl (by simp [zcat]) (Nat.le_of_ble_eq_true rfl) ?_
  show zF G mX2_refuseFullHouse (d + 3) 0 [(0, zR (B 30))] [] σ _
  have hn := hv.n
  have hL7 : L ≤ 700 := hT.2.2.2.2.2.2.1
  have hC : CC σ B (fun k j => zia σ (B k) j) := fun _ _ _ _ => rfl
  have es := hs.2.2.2.2.2.2.2.2
  have hnS := nS_D hv
  have kb := tk_b t L s.1
  have kdb : 0 ≤ tKd t L s ∧ tKd t L s ≤ 3 := by unfold tKd; split <;> omega
  have vb := tv_bd (t := t) hT.b hs.1
  have qc := mCn_b2 (D := D) (h := tv t L s.1) (n := nS D)
  refine zF_aload_n 1 dX2_refuseFullHouse_0 rfl rfl ?_
  refine zF_getR 4 dX2_refuseFullHouse_1 rfl gX2_25 hk.1 hk.2.1 hk.2.2.1 ?_
  refine zF_getI 7 dX2_refuseFullHouse_4 rfl gX2_39 (by decide) (by decide) hT.1 hT.2.1 hs.2.2.2.2.1 ?_
  refine zF_iconst 8 dX2_refuseFullHouse_7 rfl ?_
  refine zF_icmp_ne 55 11 dX2_refuseFullHouse_8 rfl rfl (by first | decide | assumption | (constructor <;> omega)) (by first | decide | assumption | (constructor <;> omega)) (fun c1 => ?_) (fun c1 => ?_)
  · exact zF_return dX2_refuseFullHouse_55 rfl ((by
    have e : tRf t L D s = s := if_neg (fun z => by have := z.2.2; omega)
    rw [e]
    exact ⟨rfl, zFr.rf, hs⟩))
  · refine zF_aload_n 12 dX2_refuseFullHouse_11 rfl rfl ?_
    refine zF_getR 15 dX2_refuseFullHouse_12 rfl gX2_25 hk.1 hk.2.1 hk.2.2.1 ?_
    refine zF_getI 18 dX2_refuseFullHouse_15 rfl gX2_123 (by decide) (by decide) hT.1 hT.2.1 hs.2.2.2.2.2.1 ?_
    refine zF_aload_n 19 dX2_refuseFullHouse_18 rfl rfl ?_
    refine zF_getR 22 dX2_refuseFullHouse_19 rfl gX2_12 hk.1 hk.2.1 hk.2.2.2.1 ?_
    refine zF_getI 25 dX2_refuseFullHouse_22 rfl gX2_81 (by decide) (by decide) hk.ch.1 hk.ch.2.1 (show zia σ (B 2100) 0 = (D 0) from ((hC 2100 0 (by decide) (by decide)).trans hd.1.1)) ?_
    refine zF_icmp_ge 55 28 dX2_refuseFullHouse_25 rfl rfl (by first | decide | assumption | (constructor <;> omega)) (by first | decide | assumption | (constructor <;> omega)) (fun c2 => ?_) (fun c2 => ?_)
    · exact zF_return dX2_refuseFullHouse_55 rfl ((by
    have e : tRf t L D s = s := if_neg (fun z => by have := z.2.2; omega)
    rw [e]
    exact ⟨rfl, zFr.rf, hs⟩))
    · have v0 := tv_0 (t := t) hs.1 (by rw [← tKd_0 (t := t) (L := L) (s := s) (tKd_z (t := t) (L := L) (by omega))]; omega)
      refine zF_aload_n 29 dX2_refuseFullHouse_28 rfl rfl ?_
      refine zF_getR 32 dX2_refuseFullHouse_29 rfl gX2_12 hk.1 hk.2.1 hk.2.2.2.1 ?_
      refine zF_getR 35 dX2_refuseFullHouse_32 rfl gX2_95 hk.ch.1 hk.ch.2.1 (cX_2102 hk).1 ?_
      refine zF_aload_n 36 dX2_refuseFullHouse_35 rfl rfl ?_
      refine zF_getR 39 dX2_refuseFullHouse_36 rfl gX2_25 hk.1 hk.2.1 hk.2.2.1 ?_
      refine zF_getI 42 dX2_refuseFullHouse_39 rfl gX2_123 (by decide) (by decide) hT.1 hT.2.1 hs.2.2.2.2.2.1 ?_
      refine zF_iaload 43 dX2_refuseFullHouse_42 rfl (cX_2102 hk).2.2 (cX_2102 hk).2.1 (by omega) (by omega) (show zia σ (B 2102) (tv t L s.1) = (mCn D (tv t L s.1) (nS D)) from ((hC 2102 (tv t L s.1) (by decide) (by decide)).trans (hd.2.1 _ v0 (by omega)).2.1)) ?_
      refine zF_iconst 44 dX2_refuseFullHouse_43 rfl ?_
      refine zF_icmp_lt 55 47 dX2_refuseFullHouse_44 rfl rfl (by first | decide | assumption | (constructor <;> omega)) (by first | decide | assumption | (constructor <;> omega)) (fun c3 => ?_) (fun c3 => ?_)
      · exact zF_return dX2_refuseFullHouse_55 rfl ((by
    have e : tRf t L D s = s := if_neg (fun z => by have := z.2.2; omega)
    rw [e]
    exact ⟨rfl, zFr.rf, hs⟩))
      · refine zF_aload_n 48 dX2_refuseFullHouse_47 rfl rfl ?_
        refine zF_getR 51 dX2_refuseFullHouse_48 rfl gX2_25 hk.1 hk.2.1 hk.2.2.1 ?_
        refine zF_iconst 52 dX2_refuseFullHouse_51 rfl ?_
        refine zF_callV 55 (d2 := (d + 2)) (as := [zI 4]) dX2_refuseFullHouse_52 rfl kX2_78 iX9_fail (ci := 9) rfl eX9_fail (Nat.le_refl _) hT.1 hT.2.1 rfl rfl (Nat.le_of_ble_eq_true rfl) (zE.mono (zt_X9_fail (c := 4) hT hs (by decide) (by decide)) fun ro σa1 hh1 => ?_)
        obtain ⟨er1, fr1, p1⟩ := hh1
        subst er1
        refine ⟨fr1.1, ?_⟩
        show zF G mX2_refuseFullHouse (d + 3) 55 [(0, zR (B 30))] [] σa1 _
        exact zF_return dX2_refuseFullHouse_55 rfl ((by
    have e : tRf t L D s = tFail 4 s := if_pos ⟨by omega, by omega, by omega⟩
    rw [e]
    exact ⟨rfl, fr1, p1⟩))
theorem zt_X2_readScreen  (hG : zOS G) (hk : cCt σ B) (hT : cTk σ B t L) (hs : cTs σ B t L s) (hd : cDm D σ B) (hv : ldV D) (h0 : s.2 = 0) : zE G mX2_readScreen (d + 6) [zR (B 30)] σ (fun ro σ1 => ro = .inl none ∧ zFr (PLd B) σ σ1 ∧ cTs σ1 B t L (tSgS t L 59 (ldScreen t L (s, D)).1) ∧ ((tSgS t L 59 (ldScreen t L (s, D)).1).2 = 0 → cDm (ldScreen t L (s, D)).2 σ1 B)) := by
  refine zE_of rfl (by simp [zcat]) (Nat.le_of_ble_eq_true rfl) ?_
  show zF G mX2_readScreen (d + 6) 0 [(0, zR (B 30))] [] σ _
  have hn := hv.n
  have hL7 : L ≤ 700 := hT.2.2.2.2.2.2.1
  have hC : CC σ B (fun k j => zia σ (B k) j) := fun _ _ _ _ => rfl
  have es := hs.2.2.2.2.2.2.2.2
  have h1 : (tAdv t L s).2 = 0 := tAdv_2.trans h0
  have ha1 : (tAdv t L s).1 ≤ L := (tAdv_1 hs.1).2
  refine zF_aload_n 1 dX2_readScreen_0 rfl rfl ?_
  refine zF_getR 4 dX2_readScreen_1 rfl gX2_12 hk.1 hk.2.1 hk.2.2.2.1 ?_
  refine zF_getI 7 dX2_readScreen_4 rfl gX2_105 (by decide) (by decide) hk.ch.1 hk.ch.2.1 (show zia σ (B 2100) 3 = (D 1) from ((hC 2100 3 (by decide) (by decide)).trans hd.1.2.1)) ?_
  refine zF_istore_n 8 (ls' := [(1, zI (D 1)), (0, zR (B 30))]) dX2_readScreen_7 rfl (by decide) rfl ?_
  refine zF_iload_n 9 dX2_readScreen_8 rfl rfl ?_
  refine zF_bipush 11 dX2_readScreen_9 rfl (by decide) ?_
  refine zF_icmp_lt 23 14 dX2_readScreen_11 rfl rfl (by first | decide | assumption | exact hv.b _ | (constructor <;> omega)) (by first | decide | assumption | exact hv.b _ | (constructor <;> omega)) (fun c1 => ?_) (fun c1 => ?_)
  · refine zF_aload_n 24 dX2_readScreen_23 rfl rfl ?_
    refine zF_getR 27 dX2_readScreen_24 rfl gX2_25 hk.1 hk.2.1 hk.2.2.1 ?_
    refine zF_callV 30 (d2 := (d + 5)) (as := []) dX2_readScreen_27 rfl kX2_84 iX9_advance (ci := 9) rfl eX9_advance (Nat.le_refl _) hT.1 hT.2.1 rfl rfl (Nat.le_of_ble_eq_true rfl) (zE.mono (zt_X9_adv (σ := σ) hT hs h0) fun ro σa1 hh1 => ?_)
    obtain ⟨er1, fr1, p1⟩ := hh1
    subst er1
    refine ⟨fr1.1, ?_⟩
    show zF G mX2_readScreen (d + 6) 30 [(1, zI (D 1)), (0, zR (B 30))] [] σa1 _
    have hk1a := cCt_fr (σ := σ) hk fr1
    have hT1a := cTk_ad (σ := σ) hT fr1
    have hs1a : cTs σa1 B t L (tAdv t L s) := p1
    have hC1a : CC σa1 B (fun k j => zia σ (B k) j) := CC_tk (σ := σ) hk fr1 hC
    have eb1 := hs1a.2.2.2.2.2.2.2.2
    refine zF_aload_n 31 dX2_readScreen_30 rfl rfl ?_
    refine zF_callV 34 (d2 := (d + 5)) (as := []) dX2_readScreen_31 rfl kX2_108 iX2_refuseFullHouse (ci := 2) rfl eX2_refuseFullHouse (Nat.le_refl _) hk1a.1 hk1a.2.1 rfl rfl (Nat.le_of_ble_eq_true rfl) (zE.mono (zt_X2_refuseFullHouse (σ := σa1) hG hk1a hT1a hs1a (cDm_of hd hC1a) hv) fun ro σa2 hh2 => ?_)
    obtain ⟨er2, fr2, p2⟩ := hh2
    subst er2
    refine ⟨fr2.1, ?_⟩
    show zF G mX2_readScreen (d + 6) 34 [(1, zI (D 1)), (0, zR (B 30))] [] σa2 _
    have hk2a := cCt_fr (σ := σa1) hk1a fr2
    have hT2a := cTk_ad (σ := σa1) hT1a fr2
    have hs2a : cTs σa2 B t L (tRf t L D (tAdv t L s)) := p2
    have hC2a : CC σa2 B (fun k j => zia σ (B k) j) := CC_tk (σ := σa1) hk1a fr2 hC1a
    have eb2 := hs2a.2.2.2.2.2.2.2.2
    refine zF_aload_n 35 dX2_readScreen_34 rfl rfl ?_
    refine zF_getR 38 dX2_readScreen_35 rfl gX2_25 hk2a.1 hk2a.2.1 hk2a.2.2.1 ?_
    refine zF_iconst 39 dX2_readScreen_38 rfl ?_
    refine zF_aload_n 40 dX2_readScreen_39 rfl rfl ?_
    refine zF_getR 43 dX2_readScreen_40 rfl gX2_12 hk2a.1 hk2a.2.1 hk2a.2.2.2.1 ?_
    refine zF_getI 46 dX2_readScreen_43 rfl gX2_81 (by decide) (by decide) hk2a.ch.1 hk2a.ch.2.1 (show zia σa2 (B 2100) 0 = (D 0) from ((hC2a 2100 0 (by decide) (by decide)).trans hd.1.1)) ?_
    refine zF_iconst 47 dX2_readScreen_46 rfl ?_
    refine zF_isub 48 dX2_readScreen_47 rfl ?_
    refine zF_callV 51 (d2 := (d + 5)) (as := [zI 0, zI ((D 0) - 1)]) dX2_readScreen_48 rfl kX2_91 iX9_takeNumber (ci := 9) rfl eX9_takeNumber (Nat.le_refl _) hT2a.1 hT2a.2.1 rfl rfl (Nat.le_of_ble_eq_true rfl) (zE.mono (zt_X9_takeNumber (σ := σa2) hT2a hs2a (by first | decide | assumption | exact hv.b _ | (constructor <;> omega)) (by first | decide | assumption | exact hv.b _ | (constructor <;> omega))) fun ro σa3 hh3 => ?_)
    obtain ⟨er3, fr3, p3⟩ := hh3
    subst er3
    refine ⟨fr3.1, ?_⟩
    show zF G mX2_readScreen (d + 6) 51 [(1, zI (D 1)), (0, zR (B 30))] [zI (tNumV t L 0 ((D 0) - 1) (tRf t L D (tAdv t L s)))] σa3 _
    have hk3a := cCt_fr (σ := σa2) hk2a fr3
    have hT3a := cTk_ad (σ := σa2) hT2a fr3
    have hs3a : cTs σa3 B t L (tNumS t L 0 ((D 0) - 1) (tRf t L D (tAdv t L s))) := p3
    have hC3a : CC σa3 B (fun k j => zia σ (B k) j) := CC_tk (σ := σa2) hk2a fr3 hC2a
    have eb3 := hs3a.2.2.2.2.2.2.2.2
    have hs9 : cTs σa3 B t L (tHs t L D (tAdv t L s)) := cTs_to hs3a (tHs_r h1 ha1)
    have hl0 := tNumV_l (t := t) (L := L) (s := tRf t L D (tAdv t L s)) (lo := 0) (hi := D 0 - 1)
    have hl1 := tNumV_u (t := t) (L := L) (s := tRf t L D (tAdv t L s)) (lo := 0) (hi := D 0 - 1)
    refine zF_istore_n 52 (ls' := [(2, zI (tNumV t L 0 ((D 0) - 1) (tRf t L D (tAdv t L s)))), (1, zI (D 1)), (0, zR (B 30))]) dX2_readScreen_51 rfl (by decide) rfl ?_
    refine zF_aload_n 53 dX2_readScreen_52 rfl rfl ?_
    refine zF_getR 56 dX2_readScreen_53 rfl gX2_12 hk3a.1 hk3a.2.1 hk3a.2.2.2.1 ?_
    refine zF_getR 59 dX2_readScreen_56 rfl gX2_111 hk3a.ch.1 hk3a.ch.2.1 (cX_2104 hk3a).1 ?_
    refine zF_iload_n 60 dX2_readScreen_59 rfl rfl ?_
    refine zF_iload_n 61 dX2_readScreen_60 rfl rfl ?_
    refine zF_iastore 62 dX2_readScreen_61 rfl (cX_2104 hk3a).2.2 (cX_2104 hk3a).2.1 (by omega) (by omega) ?_
    refine zF_aload_n 63 dX2_readScreen_62 rfl rfl ?_
    refine zF_getR 66 dX2_readScreen_63 rfl gX2_12 hk3a.1 hk3a.2.1 hk3a.2.2.2.1 ?_
    refine zF_getR 69 dX2_readScreen_66 rfl gX2_114 hk3a.ch.1 hk3a.ch.2.1 (cX_2105 hk3a).1 ?_
    refine zF_iload_n 70 dX2_readScreen_69 rfl rfl ?_
    refine zF_aload_n 71 dX2_readScreen_70 rfl rfl ?_
    refine zF_getR 74 dX2_readScreen_71 rfl gX2_25 hk3a.1 hk3a.2.1 hk3a.2.2.1 ?_
    refine zF_iconst 75 dX2_readScreen_74 rfl ?_
    refine zF_sipush 78 dX2_readScreen_75 rfl (by decide) ?_
    refine zF_callV 81 (d2 := (d + 5)) (as := [zI 1, zI 500]) dX2_readScreen_78 rfl kX2_91 iX9_takeNumber (ci := 9) rfl eX9_takeNumber (Nat.le_refl _) (cTk_si (σ := σa3) (k0 := 2104) hk3a (by decide) hT3a).1 (cTk_si (σ := σa3) (k0 := 2104) hk3a (by decide) hT3a).2.1 rfl rfl (Nat.le_of_ble_eq_true rfl) (zE.mono (zt_X9_takeNumber (σ := (zsi σa3 (B 2104) (D 1) (tNumV t L 0 ((D 0) - 1) (tRf t L D (tAdv t L s))))) (cTk_si (σ := σa3) (k0 := 2104) hk3a (by decide) hT3a) (cTs_si (σ := σa3) (k0 := 2104) hk3a (by decide) hs9) (by first | decide | assumption | exact hv.b _ | (constructor <;> omega)) (by first | decide | assumption | exact hv.b _ | (constructor <;> omega))) fun ro σa4 hh4 => ?_)
    obtain ⟨er4, fr4, p4⟩ := hh4
    subst er4
    refine ⟨fr4.1, ?_⟩
    show zF G mX2_readScreen (d + 6) 81 [(2, zI (tNumV t L 0 ((D 0) - 1) (tRf t L D (tAdv t L s)))), (1, zI (D 1)), (0, zR (B 30))] [zI (tNumV t L 1 500 (tHs t L D (tAdv t L s))), zI (D 1), zR (B 2105)] σa4 _
    have hk4a := cCt_fr (σ := (zsi σa3 (B 2104) (D 1) (tNumV t L 0 ((D 0) - 1) (tRf t L D (tAdv t L s))))) hk3a fr4
    have hT4a := cTk_ad (σ := (zsi σa3 (B 2104) (D 1) (tNumV t L 0 ((D 0) - 1) (tRf t L D (tAdv t L s))))) (cTk_si (σ := σa3) (k0 := 2104) hk3a (by decide) hT3a) fr4
    have hs4a : cTs σa4 B t L (tNumS t L 1 500 (tHs t L D (tAdv t L s))) := p4
    have hC4a : CC σa4 B (zup (fun k j => zia σ (B k) j) 2104 (D 1) (tNumV t L 0 ((D 0) - 1) (tRf t L D (tAdv t L s)))) := CC_tk (σ := (zsi σa3 (B 2104) (D 1) (tNumV t L 0 ((D 0) - 1) (tRf t L D (tAdv t L s))))) hk3a fr4 (CC_si (σ := σa3) (k0 := 2104) hk3a hC3a)
    have eb4 := hs4a.2.2.2.2.2.2.2.2
    refine zF_iastore 82 dX2_readScreen_81 rfl (cX_2105 hk4a).2.2 (cX_2105 hk4a).2.1 (by omega) (by omega) ?_
    refine zF_aload_n 83 dX2_readScreen_82 rfl rfl ?_
    refine zF_getR 86 dX2_readScreen_83 rfl gX2_12 hk4a.1 hk4a.2.1 hk4a.2.2.2.1 ?_
    refine zF_getR 89 dX2_readScreen_86 rfl gX2_117 hk4a.ch.1 hk4a.ch.2.1 (cX_2106 hk4a).1 ?_
    refine zF_iload_n 90 dX2_readScreen_89 rfl rfl ?_
    refine zF_aload_n 91 dX2_readScreen_90 rfl rfl ?_
    refine zF_getR 94 dX2_readScreen_91 rfl gX2_25 hk4a.1 hk4a.2.1 hk4a.2.2.1 ?_
    refine zF_iconst 95 dX2_readScreen_94 rfl ?_
    refine zF_bipush 97 dX2_readScreen_95 rfl (by decide) ?_
    refine zF_callV 100 (d2 := (d + 5)) (as := [zI 1, zI 6]) dX2_readScreen_97 rfl kX2_91 iX9_takeNumber (ci := 9) rfl eX9_takeNumber (Nat.le_refl _) (cTk_si (σ := σa4) (k0 := 2105) hk4a (by decide) hT4a).1 (cTk_si (σ := σa4) (k0 := 2105) hk4a (by decide) hT4a).2.1 rfl rfl (Nat.le_of_ble_eq_true rfl) (zE.mono (zt_X9_takeNumber (σ := (zsi σa4 (B 2105) (D 1) (tNumV t L 1 500 (tHs t L D (tAdv t L s))))) (cTk_si (σ := σa4) (k0 := 2105) hk4a (by decide) hT4a) (cTs_si (σ := σa4) (k0 := 2105) hk4a (by decide) hs4a) (by first | decide | assumption | exact hv.b _ | (constructor <;> omega)) (by first | decide | assumption | exact hv.b _ | (constructor <;> omega))) fun ro σa5 hh5 => ?_)
    obtain ⟨er5, fr5, p5⟩ := hh5
    subst er5
    refine ⟨fr5.1, ?_⟩
    show zF G mX2_readScreen (d + 6) 100 [(2, zI (tNumV t L 0 ((D 0) - 1) (tRf t L D (tAdv t L s)))), (1, zI (D 1)), (0, zR (B 30))] [zI (tNumV t L 1 6 (tNumS t L 1 500 (tHs t L D (tAdv t L s)))), zI (D 1), zR (B 2106)] σa5 _
    have hk5a := cCt_fr (σ := (zsi σa4 (B 2105) (D 1) (tNumV t L 1 500 (tHs t L D (tAdv t L s))))) hk4a fr5
    have hT5a := cTk_ad (σ := (zsi σa4 (B 2105) (D 1) (tNumV t L 1 500 (tHs t L D (tAdv t L s))))) (cTk_si (σ := σa4) (k0 := 2105) hk4a (by decide) hT4a) fr5
    have hs5a : cTs σa5 B t L (tNumS t L 1 6 (tNumS t L 1 500 (tHs t L D (tAdv t L s)))) := p5
    have hC5a : CC σa5 B (zup (zup (fun k j => zia σ (B k) j) 2104 (D 1) (tNumV t L 0 ((D 0) - 1) (tRf t L D (tAdv t L s)))) 2105 (D 1) (tNumV t L 1 500 (tHs t L D (tAdv t L s)))) := CC_tk (σ := (zsi σa4 (B 2105) (D 1) (tNumV t L 1 500 (tHs t L D (tAdv t L s))))) hk4a fr5 (CC_si (σ := σa4) (k0 := 2105) hk4a hC4a)
    have eb5 := hs5a.2.2.2.2.2.2.2.2
    refine zF_iastore 101 dX2_readScreen_100 rfl (cX_2106 hk5a).2.2 (cX_2106 hk5a).2.1 (by omega) (by omega) ?_
    refine zF_aload_n 102 dX2_readScreen_101 rfl rfl ?_
    refine zF_getR 105 dX2_readScreen_102 rfl gX2_21 hk5a.1 hk5a.2.1 hk5a.2.2.2.2.1 ?_
    refine zF_getR 108 dX2_readScreen_105 rfl gX2_120 hk5a.st.1 hk5a.st.2.1 (cX_2204 hk5a).1 ?_
    refine zF_iload_n 109 dX2_readScreen_108 rfl rfl ?_
    refine zF_aload_n 110 dX2_readScreen_109 rfl rfl ?_
    refine zF_getR 113 dX2_readScreen_110 rfl gX2_25 hk5a.1 hk5a.2.1 hk5a.2.2.1 ?_
    refine zF_iconst 114 dX2_readScreen_113 rfl ?_
    refine zF_sipush 117 dX2_readScreen_114 rfl (by decide) ?_
    refine zF_callV 120 (d2 := (d + 5)) (as := [zI 0, zI 9999]) dX2_readScreen_117 rfl kX2_91 iX9_takeNumber (ci := 9) rfl eX9_takeNumber (Nat.le_refl _) (cTk_si (σ := σa5) (k0 := 2106) hk5a (by decide) hT5a).1 (cTk_si (σ := σa5) (k0 := 2106) hk5a (by decide) hT5a).2.1 rfl rfl (Nat.le_of_ble_eq_true rfl) (zE.mono (zt_X9_takeNumber (σ := (zsi σa5 (B 2106) (D 1) (tNumV t L 1 6 (tNumS t L 1 500 (tHs t L D (tAdv t L s)))))) (cTk_si (σ := σa5) (k0 := 2106) hk5a (by decide) hT5a) (cTs_si (σ := σa5) (k0 := 2106) hk5a (by decide) hs5a) (by first | decide | assumption | exact hv.b _ | (constructor <;> omega)) (by first | decide | assumption | exact hv.b _ | (constructor <;> omega))) fun ro σa6 hh6 => ?_)
    obtain ⟨er6, fr6, p6⟩ := hh6
    subst er6
    refine ⟨fr6.1, ?_⟩
    show zF G mX2_readScreen (d + 6) 120 [(2, zI (tNumV t L 0 ((D 0) - 1) (tRf t L D (tAdv t L s)))), (1, zI (D 1)), (0, zR (B 30))] [zI (tNumV t L 0 9999 (tNumS t L 1 6 (tNumS t L 1 500 (tHs t L D (tAdv t L s))))), zI (D 1), zR (B 2204)] σa6 _
    have hk6a := cCt_fr (σ := (zsi σa5 (B 2106) (D 1) (tNumV t L 1 6 (tNumS t L 1 500 (tHs t L D (tAdv t L s)))))) hk5a fr6
    have hT6a := cTk_ad (σ := (zsi σa5 (B 2106) (D 1) (tNumV t L 1 6 (tNumS t L 1 500 (tHs t L D (tAdv t L s)))))) (cTk_si (σ := σa5) (k0 := 2106) hk5a (by decide) hT5a) fr6
    have hs6a : cTs σa6 B t L (tNumS t L 0 9999 (tNumS t L 1 6 (tNumS t L 1 500 (tHs t L D (tAdv t L s))))) := p6
    have hC6a : CC σa6 B (zup (zup (zup (fun k j => zia σ (B k) j) 2104 (D 1) (tNumV t L 0 ((D 0) - 1) (tRf t L D (tAdv t L s)))) 2105 (D 1) (tNumV t L 1 500 (tHs t L D (tAdv t L s)))) 2106 (D 1) (tNumV t L 1 6 (tNumS t L 1 500 (tHs t L D (tAdv t L s))))) := CC_tk (σ := (zsi σa5 (B 2106) (D 1) (tNumV t L 1 6 (tNumS t L 1 500 (tHs t L D (tAdv t L s)))))) hk5a fr6 (CC_si (σ := σa5) (k0 := 2106) hk5a hC5a)
    have eb6 := hs6a.2.2.2.2.2.2.2.2
    refine zF_iastore 121 dX2_readScreen_120 rfl (cX_2204 hk6a).2.2 (cX_2204 hk6a).2.1 (by omega) (by omega) ?_
    refine zF_aload_n 122 dX2_readScreen_121 rfl rfl ?_
    refine zF_getR 125 dX2_readScreen_122 rfl gX2_25 hk6a.1 hk6a.2.1 hk6a.2.2.1 ?_
    refine zF_bipush 127 dX2_readScreen_125 rfl (by decide) ?_
    refine zF_callV 130 (d2 := (d + 5)) (as := [zI 59]) dX2_readScreen_127 rfl kX2_101 iX9_takeSign (ci := 9) rfl eX9_takeSign (Nat.le_refl _) (cTk_si (σ := σa6) (k0 := 2204) hk6a (by decide) hT6a).1 (cTk_si (σ := σa6) (k0 := 2204) hk6a (by decide) hT6a).2.1 rfl rfl (Nat.le_of_ble_eq_true rfl) (zE.mono (zt_X9_takeSign (σ := (zsi σa6 (B 2204) (D 1) (tNumV t L 0 9999 (tNumS t L 1 6 (tNumS t L 1 500 (tHs t L D (tAdv t L s))))))) (cTk_si (σ := σa6) (k0 := 2204) hk6a (by decide) hT6a) (cTs_si (σ := σa6) (k0 := 2204) hk6a (by decide) hs6a) (by decide)) fun ro σa7 hh7 => ?_)
    obtain ⟨er7, fr7, p7⟩ := hh7
    subst er7
    refine ⟨fr7.1, ?_⟩
    show zF G mX2_readScreen (d + 6) 130 [(2, zI (tNumV t L 0 ((D 0) - 1) (tRf t L D (tAdv t L s)))), (1, zI (D 1)), (0, zR (B 30))] [] σa7 _
    have hk7a := cCt_fr (σ := (zsi σa6 (B 2204) (D 1) (tNumV t L 0 9999 (tNumS t L 1 6 (tNumS t L 1 500 (tHs t L D (tAdv t L s))))))) hk6a fr7
    have hT7a := cTk_ad (σ := (zsi σa6 (B 2204) (D 1) (tNumV t L 0 9999 (tNumS t L 1 6 (tNumS t L 1 500 (tHs t L D (tAdv t L s))))))) (cTk_si (σ := σa6) (k0 := 2204) hk6a (by decide) hT6a) fr7
    have hs7a : cTs σa7 B t L (tSgS t L 59 (tNumS t L 0 9999 (tNumS t L 1 6 (tNumS t L 1 500 (tHs t L D (tAdv t L s)))))) := p7
    have hC7a : CC σa7 B (zup (zup (zup (zup (fun k j => zia σ (B k) j) 2104 (D 1) (tNumV t L 0 ((D 0) - 1) (tRf t L D (tAdv t L s)))) 2105 (D 1) (tNumV t L 1 500 (tHs t L D (tAdv t L s)))) 2106 (D 1) (tNumV t L 1 6 (tNumS t L 1 500 (tHs t L D (tAdv t L s))))) 2204 (D 1) (tNumV t L 0 9999 (tNumS t L 1 6 (tNumS t L 1 500 (tHs t L D (tAdv t L s)))))) := CC_tk (σ := (zsi σa6 (B 2204) (D 1) (tNumV t L 0 9999 (tNumS t L 1 6 (tNumS t L 1 500 (tHs t L D (tAdv t L s))))))) hk6a fr7 (CC_si (σ := σa6) (k0 := 2204) hk6a hC6a)
    have eb7 := hs7a.2.2.2.2.2.2.2.2
    refine zF_aload_n 131 dX2_readScreen_130 rfl rfl ?_
    refine zF_getR 134 dX2_readScreen_131 rfl gX2_12 hk7a.1 hk7a.2.1 hk7a.2.2.2.1 ?_
    refine zF_getR 137 dX2_readScreen_134 rfl gX2_95 hk7a.ch.1 hk7a.ch.2.1 (cX_2102 hk7a).1 ?_
    refine zF_iload_n 138 dX2_readScreen_137 rfl rfl ?_
    refine zF_dup2 139 dX2_readScreen_138 rfl rfl rfl ?_
    refine zF_iaload 140 dX2_readScreen_139 rfl (cX_2102 hk7a).2.2 (cX_2102 hk7a).2.1 (by omega) (by omega) (show zia σa7 (B 2102) (tNumV t L 0 ((D 0) - 1) (tRf t L D (tAdv t L s))) = (zia σ (B 2102) (tNumV t L 0 ((D 0) - 1) (tRf t L D (tAdv t L s)))) from (((((hC7a 2102 (tNumV t L 0 ((D 0) - 1) (tRf t L D (tAdv t L s))) (by decide) (by decide)).trans (zup_n (by decide))).trans (zup_n (by decide))).trans (zup_n (by decide))).trans (zup_n (by decide)))) ?_
    refine zF_iconst 141 dX2_readScreen_140 rfl ?_
    refine zF_iadd 142 dX2_readScreen_141 rfl ?_
    refine zF_iastore 143 dX2_readScreen_142 rfl (cX_2102 hk7a).2.2 (cX_2102 hk7a).2.1 (by omega) (by omega) ?_
    refine zF_aload_n 144 dX2_readScreen_143 rfl rfl ?_
    refine zF_getR 147 dX2_readScreen_144 rfl gX2_12 hk7a.1 hk7a.2.1 hk7a.2.2.2.1 ?_
    refine zF_dup 148 dX2_readScreen_147 rfl rfl ?_
    refine zF_getI 151 dX2_readScreen_148 rfl gX2_105 (by decide) (by decide) hk7a.ch.1 hk7a.ch.2.1 (show zia (zsi σa7 (B 2102) (tNumV t L 0 ((D 0) - 1) (tRf t L D (tAdv t L s))) ((zia σ (B 2102) (tNumV t L 0 ((D 0) - 1) (tRf t L D (tAdv t L s)))) + 1)) (B 2100) 3 = (D 1) from ((((((((CC_si (σ := σa7) (k0 := 2102) hk7a hC7a) 2100 3 (by decide) (by decide)).trans (zup_n (by decide))).trans (zup_n (by decide))).trans (zup_n (by decide))).trans (zup_n (by decide))).trans (zup_n (by decide))).trans hd.1.2.1)) ?_
    refine zF_iconst 152 dX2_readScreen_151 rfl ?_
    refine zF_iadd 153 dX2_readScreen_152 rfl ?_
    refine zF_putI 156 dX2_readScreen_153 rfl pX2_readScreen_105 (Or.inl rfl) hk7a.ch.1 hk7a.ch.2.1 ?_
    exact zF_return dX2_readScreen_156 rfl ((by
    have e : ldScreen t L (s, D) = (tNumS t L 0 9999 (tNumS t L 1 6 (tNumS t L 1 500 (tHs t L D (tAdv t L s)))), mSet (mBook (mSet (mSet (mSet (mSet D (14 + 8 * D 1 + 0) (tv t L (tAdv t L s).1)) (14 + 8 * D 1 + 1) (tNumV t L 1 500 (tHs t L D (tAdv t L s)))) (14 + 8 * D 1 + 2) (tNumV t L 1 6 (tNumS t L 1 500 (tHs t L D (tAdv t L s))))) (14 + 8 * D 1 + 3) (tNumV t L 0 9999 (tNumS t L 1 6 (tNumS t L 1 500 (tHs t L D (tAdv t L s)))))) (D 1) (-1) (-1) 0 0) 1 (D 1 + 1)) := if_pos (by show D 1 < 10; omega)
    rw [e]
    refine ⟨rfl, (zFr_si (Or.inr ⟨2100, by decide, by decide, rfl⟩) (zFr_si (Or.inr ⟨2102, by decide, by decide, rfl⟩) ((zFr_si (Or.inr ⟨2204, by decide, by decide, rfl⟩) ((zFr_si (Or.inr ⟨2106, by decide, by decide, rfl⟩) ((zFr_si (Or.inr ⟨2105, by decide, by decide, rfl⟩) ((zFr_si (Or.inr ⟨2104, by decide, by decide, rfl⟩) (((PTk_l fr1).tr (PTk_l fr2)).tr (PTk_l fr3))).tr (PTk_l fr4))).tr (PTk_l fr5))).tr (PTk_l fr6))).tr (PTk_l fr7)))), (cTs_si (σ := (zsi σa7 (B 2102) (tNumV t L 0 ((D 0) - 1) (tRf t L D (tAdv t L s))) ((zia σ (B 2102) (tNumV t L 0 ((D 0) - 1) (tRf t L D (tAdv t L s)))) + 1))) (k0 := 2100) hk7a (by decide) (cTs_si (σ := σa7) (k0 := 2102) hk7a (by decide) hs7a)), fun z => ?_⟩
    have z1 := tNumS_2 (tSgS_2 z)
    have z2 := tNumS_2 z1.1
    have z3 := tNumS_2 z2.1
    have z4 := tHs_2 z3.1
    have hv9 := tHs_v h1 z3.1
    have q := cDm_of (cD_screen (v := (tNumV t L 0 (D 0 - 1) (tRf t L D (tAdv t L s)))) hd hv (by omega) (by omega) (by omega)) (CC_si (σ := (zsi σa7 (B 2102) (tNumV t L 0 ((D 0) - 1) (tRf t L D (tAdv t L s))) ((zia σ (B 2102) (tNumV t L 0 ((D 0) - 1) (tRf t L D (tAdv t L s)))) + 1))) (k0 := 2100) hk7a (CC_si (σ := σa7) (k0 := 2102) hk7a hC7a))
    rw [hv9]
    exact q))
  · refine zF_aload_n 15 dX2_readScreen_14 rfl rfl ?_
    refine zF_getR 18 dX2_readScreen_15 rfl gX2_25 hk.1 hk.2.1 hk.2.2.1 ?_
    refine zF_iconst 19 dX2_readScreen_18 rfl ?_
    refine zF_callV 22 (d2 := (d + 5)) (as := [zI 3]) dX2_readScreen_19 rfl kX2_78 iX9_fail (ci := 9) rfl eX9_fail (Nat.le_refl _) hT.1 hT.2.1 rfl rfl (Nat.le_of_ble_eq_true rfl) (zE.mono (zt_X9_fail (σ := σ) (c := 3) hT hs (by decide) (by decide)) fun ro σa8 hh8 => ?_)
    obtain ⟨er8, fr8, p8⟩ := hh8
    subst er8
    refine ⟨fr8.1, ?_⟩
    show zF G mX2_readScreen (d + 6) 22 [(1, zI (D 1)), (0, zR (B 30))] [] σa8 _
    have hk8a := cCt_fr (σ := σ) hk fr8
    have hT8a := cTk_ad (σ := σ) hT fr8
    have hs8a : cTs σa8 B t L (tFail 3 s) := p8
    have hC8a : CC σa8 B (fun k j => zia σ (B k) j) := CC_tk (σ := σ) hk fr8 hC
    have eb8 := hs8a.2.2.2.2.2.2.2.2
    exact zF_return dX2_readScreen_22 rfl ((by
    have e : ldScreen t L (s, D) = (tFail 3 s, D) := if_neg (by show ¬ D 1 < 10; omega)
    rw [e]
    have e2 : tSgS t L 59 (tFail 3 s) = tFail 3 s := tSgS_e (tFail_2 (by decide))
    refine ⟨rfl, (PTk_l fr8), ?_, fun z => absurd z ?_⟩
    · show cTs _ B t L (tSgS t L 59 (tFail 3 s)); rw [e2]; exact hs8a
    · show ¬ (tSgS t L 59 (tFail 3 s)).2 = 0; rw [e2]; exact tFail_2 (by decide)))
theorem zt_X2_readTerms {f : Int} (hk : cCt σ B) (hT : cTk σ B t L) (hs : cTs σ B t L s) (hC : CC σ B c) (f0 : 0 ≤ f) (f1 : f < 6) : zE G mX2_readTerms (d + 3) [zR (B 30), zI f] σ (fun ro σ1 => ro = .inl none ∧ zFr (PLd B) σ σ1 ∧ cTs σ1 B t L (tIt t L s (tmC t L s)) ∧ CC σ1 B (zup (ctm t L c s (f * 4) (tmC t L s)) 2111 f (tmC t L s : Int))) := by
  refine zE_of rfl (by simp [zcat]) (Nat.le_of_ble_eq_true rfl) ?_
  show zF G mX2_readTerms (d + 3) 0 [(0, zR (B 30)), (1, zI f)] [] σ _
  have hL7 : L ≤ 700 := hT.2.2.2.2.2.2.1
  refine zF_aload_n 1 dX2_readTerms_0 rfl rfl ?_
  refine zF_getR 4 dX2_readTerms_1 rfl gX2_12 hk.1 hk.2.1 hk.2.2.2.1 ?_
  refine zF_getR 7 dX2_readTerms_4 rfl gX2_144 hk.ch.1 hk.ch.2.1 (cX_2112 hk).1 ?_
  refine zF_iload_n 8 dX2_readTerms_7 rfl rfl ?_
  refine zF_iconst 9 dX2_readTerms_8 rfl ?_
  refine zF_imul 10 dX2_readTerms_9 rfl ?_
  refine zF_aload_n 11 dX2_readTerms_10 rfl rfl ?_
  refine zF_getR 14 dX2_readTerms_11 rfl gX2_25 hk.1 hk.2.1 hk.2.2.1 ?_
  refine zF_iconst 15 dX2_readTerms_14 rfl ?_
  refine zF_bipush 17 dX2_readTerms_15 rfl (by decide) ?_
  refine zF_callV 20 (d2 := (d + 2)) (as := [zI 0, zI 90]) dX2_readTerms_17 rfl kX2_91 iX9_takeNumber (ci := 9) rfl eX9_takeNumber (Nat.le_refl _) hT.1 hT.2.1 rfl rfl (Nat.le_of_ble_eq_true rfl) (zE.mono (zt_X9_takeNumber (σ := σ) hT hs (by decide) (by decide)) fun ro σa1 hh1 => ?_)
  obtain ⟨er1, fr1, p1⟩ := hh1
  subst er1
  refine ⟨fr1.1, ?_⟩
  show zF G mX2_readTerms (d + 3) 20 [(0, zR (B 30)), (1, zI f)] [zI (tNumV t L 0 90 s), zI (f * 4), zR (B 2112)] σa1 _
  have hk1a := cCt_fr (σ := σ) hk fr1
  have hT1a := cTk_ad (σ := σ) hT fr1
  have hs1a : cTs σa1 B t L (tIt t L s 1) := p1
  have hC1a : CC σa1 B c := CC_tk (σ := σ) hk fr1 hC
  have eb1 := hs1a.2.2.2.2.2.2.2.2
  refine zF_iastore 21 dX2_readTerms_20 rfl (cX_2112 hk1a).2.2 (cX_2112 hk1a).2.1 (by omega) (by omega) ?_
  refine zF_iconst 22 dX2_readTerms_21 rfl ?_
  refine zF_istore_n 23 (ls' := [(2, zI 1), (0, zR (B 30)), (1, zI f)]) dX2_readTerms_22 rfl (by decide) rfl ?_
  refine zF_locs (ls' := [(2, zI 1), (0, zR (B 30)), (1, zI f)]) ⟨rfl, rfl, rfl, trivial⟩ ?_
  refine zF_while (X := Nat) (fun x => 4 - x) (fun x σ2 => (1 ≤ x ∧ x ≤ 4) ∧ zFr (PLd B) σ σ2 ∧ cTs σ2 B t L (tIt t L s x) ∧ CC σ2 B (ctm t L c s (f * 4) x) ∧ ∀ i, 1 ≤ i → i < x → tKd t L (tIt t L s i) = 2) (fun x => [(2, zI ((x : Nat) : Int)), (0, zR (B 30)), (1, zI f)]) ?_ 1 (zsi σa1 (B 2112) (f * 4) (tNumV t L 0 90 s)) (⟨by decide, (zFr_si (Or.inr ⟨2112, by decide, by decide, rfl⟩) (PTk_l fr1)), (cTs_si (σ := σa1) (k0 := 2112) hk1a (by decide) hs1a), CC_to (CC_si (σ := σa1) (k0 := 2112) hk1a hC1a) ctm_1.symm, fun i a b => absurd b (by omega)⟩)
  intro x σ2 hI23 ih23
  show zF G mX2_readTerms (d + 3) 23 [(2, zI ((x : Nat) : Int)), (0, zR (B 30)), (1, zI f)] [] σ2 _
  obtain ⟨hx4, f2, hs2, hC2, hk9⟩ := hI23
  have hk2 := cCt_fr hk f2
  have hT2 := cTk_l hk hT f2
  have kdb : 0 ≤ tKd t L (tIt t L s x) ∧ tKd t L (tIt t L s x) ≤ 3 := by have kb := tk_b t L (tIt t L s x).1; unfold tKd; split <;> omega
  refine zF_iload_n 24 dX2_readTerms_23 rfl rfl ?_
  refine zF_iconst 25 dX2_readTerms_24 rfl ?_
  refine zF_icmp_ge 68 28 dX2_readTerms_25 rfl rfl (by first | decide | assumption | (constructor <;> omega)) (by first | decide | assumption | (constructor <;> omega)) (fun c1 => ?_) (fun c1 => ?_)
  · refine zF_aload_n 69 dX2_readTerms_68 rfl rfl ?_
    refine zF_getR 72 dX2_readTerms_69 rfl gX2_12 hk2.1 hk2.2.1 hk2.2.2.2.1 ?_
    refine zF_getR 75 dX2_readTerms_72 rfl gX2_147 hk2.ch.1 hk2.ch.2.1 (cX_2111 hk2).1 ?_
    refine zF_iload_n 76 dX2_readTerms_75 rfl rfl ?_
    refine zF_iload_n 77 dX2_readTerms_76 rfl rfl ?_
    refine zF_iastore 78 dX2_readTerms_77 rfl (cX_2111 hk2).2.2 (cX_2111 hk2).2.1 (by omega) (by omega) ?_
    exact zF_return dX2_readTerms_78 rfl ((by
    have ec : tmC t L s = x := tmC_is (by omega) (by omega) hk9 (by omega)
    rw [ec]
    exact ⟨rfl, (zFr_si (Or.inr ⟨2111, by decide, by decide, rfl⟩) f2), (cTs_si (σ := σ2) (k0 := 2111) hk2 (by decide) hs2), (CC_si (σ := σ2) (k0 := 2111) hk2 hC2)⟩))
  · refine zF_aload_n 29 dX2_readTerms_28 rfl rfl ?_
    refine zF_getR 32 dX2_readTerms_29 rfl gX2_25 hk2.1 hk2.2.1 hk2.2.2.1 ?_
    refine zF_getI 35 dX2_readTerms_32 rfl gX2_39 (by decide) (by decide) hT2.1 hT2.2.1 hs2.2.2.2.2.1 ?_
    refine zF_iconst 36 dX2_readTerms_35 rfl ?_
    refine zF_icmp_ne 68 39 dX2_readTerms_36 rfl rfl (by first | decide | assumption | (constructor <;> omega)) (by first | decide | assumption | (constructor <;> omega)) (fun c2 => ?_) (fun c2 => ?_)
    · refine zF_aload_n 69 dX2_readTerms_68 rfl rfl ?_
      refine zF_getR 72 dX2_readTerms_69 rfl gX2_12 hk2.1 hk2.2.1 hk2.2.2.2.1 ?_
      refine zF_getR 75 dX2_readTerms_72 rfl gX2_147 hk2.ch.1 hk2.ch.2.1 (cX_2111 hk2).1 ?_
      refine zF_iload_n 76 dX2_readTerms_75 rfl rfl ?_
      refine zF_iload_n 77 dX2_readTerms_76 rfl rfl ?_
      refine zF_iastore 78 dX2_readTerms_77 rfl (cX_2111 hk2).2.2 (cX_2111 hk2).2.1 (by omega) (by omega) ?_
      exact zF_return dX2_readTerms_78 rfl ((by
    have ec : tmC t L s = x := tmC_is (by omega) (by omega) hk9 (by omega)
    rw [ec]
    exact ⟨rfl, (zFr_si (Or.inr ⟨2111, by decide, by decide, rfl⟩) f2), (cTs_si (σ := σ2) (k0 := 2111) hk2 (by decide) hs2), (CC_si (σ := σ2) (k0 := 2111) hk2 hC2)⟩))
    · refine zF_aload_n 40 dX2_readTerms_39 rfl rfl ?_
      refine zF_getR 43 dX2_readTerms_40 rfl gX2_12 hk2.1 hk2.2.1 hk2.2.2.2.1 ?_
      refine zF_getR 46 dX2_readTerms_43 rfl gX2_144 hk2.ch.1 hk2.ch.2.1 (cX_2112 hk2).1 ?_
      refine zF_iload_n 47 dX2_readTerms_46 rfl rfl ?_
      refine zF_iconst 48 dX2_readTerms_47 rfl ?_
      refine zF_imul 49 dX2_readTerms_48 rfl ?_
      refine zF_iload_n 50 dX2_readTerms_49 rfl rfl ?_
      refine zF_iadd 51 dX2_readTerms_50 rfl ?_
      refine zF_aload_n 52 dX2_readTerms_51 rfl rfl ?_
      refine zF_getR 55 dX2_readTerms_52 rfl gX2_25 hk2.1 hk2.2.1 hk2.2.2.1 ?_
      refine zF_iconst 56 dX2_readTerms_55 rfl ?_
      refine zF_bipush 58 dX2_readTerms_56 rfl (by decide) ?_
      refine zF_callV 61 (d2 := (d + 2)) (as := [zI 0, zI 90]) dX2_readTerms_58 rfl kX2_91 iX9_takeNumber (ci := 9) rfl eX9_takeNumber (Nat.le_refl _) hT2.1 hT2.2.1 rfl rfl (Nat.le_of_ble_eq_true rfl) (zE.mono (zt_X9_takeNumber (σ := σ2) hT2 hs2 (by decide) (by decide)) fun ro σa2 hh2 => ?_)
      obtain ⟨er2, fr2, p2⟩ := hh2
      subst er2
      refine ⟨fr2.1, ?_⟩
      show zF G mX2_readTerms (d + 3) 61 [(2, zI ((x : Nat) : Int)), (0, zR (B 30)), (1, zI f)] [zI (tNumV t L 0 90 (tIt t L s x)), zI ((f * 4) + ((x : Nat) : Int)), zR (B 2112)] σa2 _
      have hk2a := cCt_fr (σ := σ2) hk2 fr2
      have hT2a := cTk_ad (σ := σ2) hT2 fr2
      have hs2a : cTs σa2 B t L (tIt t L s (x + 1)) := p2
      have hC2a : CC σa2 B (ctm t L c s (f * 4) x) := CC_tk (σ := σ2) hk2 fr2 hC2
      have eb2 := hs2a.2.2.2.2.2.2.2.2
      refine zF_iastore 62 dX2_readTerms_61 rfl (cX_2112 hk2a).2.2 (cX_2112 hk2a).2.1 (by omega) (by omega) ?_
      refine zF_iinc 65 (ls' := [(2, zI (((x : Nat) : Int) + 1)), (0, zR (B 30)), (1, zI f)]) dX2_readTerms_62 rfl rfl rfl (by decide) rfl ?_
      refine zF_goto 23 dX2_readTerms_65 rfl ?_
      exact zF_locs (ls' := [(2, zI (((x + 1) : Nat) : Int)), (0, zR (B 30)), (1, zI f)]) ⟨zlI rfl (by first | rfl | omega | (push_cast; omega) | exact congrArg (_ + ·) (zbT (by assumption)) | exact congrArg (_ + ·) (zbF (by assumption)) | exact congrArg (_ + ·) (zbT (by omega)) | exact congrArg (_ + ·) (zbF (by omega)) | exact congrArg (_ + ·) (if_pos (by omega)).symm | exact congrArg (_ + ·) (if_neg (by omega)).symm | exact (if_pos (by omega)).symm | exact (if_neg (by omega)).symm | exact zsub_s (if_pos (by omega)).symm | exact zsub_s0 (if_neg (by omega)).symm | exact zadd0 (if_neg (by omega)).symm | exact zadd0 (zbF (by omega)) | exact (Int.sub_zero _).symm), rfl, rfl, trivial⟩ (ih23 (x + 1) _ (by omega) (⟨by omega, (zFr_si (Or.inr ⟨2112, by decide, by decide, rfl⟩) (f2.tr (PTk_l fr2))), (cTs_si (σ := σa2) (k0 := 2112) hk2a (by decide) hs2a), (CC_si (σ := σa2) (k0 := 2112) hk2a hC2a), fun i a b => by
          by_cases q : i = x
          · subst q; omega
          · exact hk9 i a (by omega)⟩))
theorem zt_X2_readFilm  (hG : zOS G) (hk : cCt σ B) (hT : cTk σ B t L) (hs : cTs σ B t L s) (hd : cDm D σ B) (hv : ldV D) (h0 : s.2 = 0) : zE G mX2_readFilm (d + 6) [zR (B 30)] σ (fun ro σ1 => ro = .inl none ∧ zFr (PLd B) σ σ1 ∧ cTs σ1 B t L (tSgS t L 59 (ldFilm t L (s, D)).1) ∧ ((tSgS t L 59 (ldFilm t L (s, D)).1).2 = 0 → cDm (ldFilm t L (s, D)).2 σ1 B)) := by
  refine zE_of rfl (by simp [zcat]) (Nat.le_of_ble_eq_true rfl) ?_
  show zF G mX2_readFilm (d + 6) 0 [(0, zR (B 30))] [] σ _
  have hn := hv.n
  have hL7 : L ≤ 700 := hT.2.2.2.2.2.2.1
  have hC : CC σ B (fun k j => zia σ (B k) j) := fun _ _ _ _ => rfl
  have es := hs.2.2.2.2.2.2.2.2
  refine zF_aload_n 1 dX2_readFilm_0 rfl rfl ?_
  refine zF_getR 4 dX2_readFilm_1 rfl gX2_12 hk.1 hk.2.1 hk.2.2.2.1 ?_
  refine zF_getI 7 dX2_readFilm_4 rfl gX2_126 (by decide) (by decide) hk.ch.1 hk.ch.2.1 (show zia σ (B 2100) 7 = (D 2) from ((hC 2100 7 (by decide) (by decide)).trans hd.1.2.2)) ?_
  refine zF_istore_n 8 (ls' := [(1, zI (D 2)), (0, zR (B 30))]) dX2_readFilm_7 rfl (by decide) rfl ?_
  refine zF_iload_n 9 dX2_readFilm_8 rfl rfl ?_
  refine zF_bipush 11 dX2_readFilm_9 rfl (by decide) ?_
  refine zF_icmp_lt 23 14 dX2_readFilm_11 rfl rfl (by first | decide | assumption | exact hv.b _ | (constructor <;> omega)) (by first | decide | assumption | exact hv.b _ | (constructor <;> omega)) (fun c1 => ?_) (fun c1 => ?_)
  · refine zF_aload_n 24 dX2_readFilm_23 rfl rfl ?_
    refine zF_getR 27 dX2_readFilm_24 rfl gX2_25 hk.1 hk.2.1 hk.2.2.1 ?_
    refine zF_callV 30 (d2 := (d + 5)) (as := []) dX2_readFilm_27 rfl kX2_84 iX9_advance (ci := 9) rfl eX9_advance (Nat.le_refl _) hT.1 hT.2.1 rfl rfl (Nat.le_of_ble_eq_true rfl) (zE.mono (zt_X9_adv (σ := σ) hT hs h0) fun ro σa1 hh1 => ?_)
    obtain ⟨er1, fr1, p1⟩ := hh1
    subst er1
    refine ⟨fr1.1, ?_⟩
    show zF G mX2_readFilm (d + 6) 30 [(1, zI (D 2)), (0, zR (B 30))] [] σa1 _
    have hk1a := cCt_fr (σ := σ) hk fr1
    have hT1a := cTk_ad (σ := σ) hT fr1
    have hs1a : cTs σa1 B t L (tAdv t L s) := p1
    have hC1a : CC σa1 B (fun k j => zia σ (B k) j) := CC_tk (σ := σ) hk fr1 hC
    have eb1 := hs1a.2.2.2.2.2.2.2.2
    refine zF_aload_n 31 dX2_readFilm_30 rfl rfl ?_
    refine zF_getR 34 dX2_readFilm_31 rfl gX2_12 hk1a.1 hk1a.2.1 hk1a.2.2.2.1 ?_
    refine zF_getR 37 dX2_readFilm_34 rfl gX2_129 hk1a.ch.1 hk1a.ch.2.1 (cX_2108 hk1a).1 ?_
    refine zF_iload_n 38 dX2_readFilm_37 rfl rfl ?_
    refine zF_aload_n 39 dX2_readFilm_38 rfl rfl ?_
    refine zF_getR 42 dX2_readFilm_39 rfl gX2_25 hk1a.1 hk1a.2.1 hk1a.2.2.1 ?_
    refine zF_iconst 43 dX2_readFilm_42 rfl ?_
    refine zF_sipush 46 dX2_readFilm_43 rfl (by decide) ?_
    refine zF_callV 49 (d2 := (d + 5)) (as := [zI 0, zI 9999]) dX2_readFilm_46 rfl kX2_91 iX9_takeNumber (ci := 9) rfl eX9_takeNumber (Nat.le_refl _) hT1a.1 hT1a.2.1 rfl rfl (Nat.le_of_ble_eq_true rfl) (zE.mono (zt_X9_takeNumber (σ := σa1) hT1a hs1a (by first | decide | assumption | exact hv.b _ | (constructor <;> omega)) (by first | decide | assumption | exact hv.b _ | (constructor <;> omega))) fun ro σa2 hh2 => ?_)
    obtain ⟨er2, fr2, p2⟩ := hh2
    subst er2
    refine ⟨fr2.1, ?_⟩
    show zF G mX2_readFilm (d + 6) 49 [(1, zI (D 2)), (0, zR (B 30))] [zI (tNumV t L 0 9999 (tAdv t L s)), zI (D 2), zR (B 2108)] σa2 _
    have hk2a := cCt_fr (σ := σa1) hk1a fr2
    have hT2a := cTk_ad (σ := σa1) hT1a fr2
    have hs2a : cTs σa2 B t L (tNumS t L 0 9999 (tAdv t L s)) := p2
    have hC2a : CC σa2 B (fun k j => zia σ (B k) j) := CC_tk (σ := σa1) hk1a fr2 hC1a
    have eb2 := hs2a.2.2.2.2.2.2.2.2
    refine zF_iastore 50 dX2_readFilm_49 rfl (cX_2108 hk2a).2.2 (cX_2108 hk2a).2.1 (by omega) (by omega) ?_
    refine zF_aload_n 51 dX2_readFilm_50 rfl rfl ?_
    refine zF_getR 54 dX2_readFilm_51 rfl gX2_12 hk2a.1 hk2a.2.1 hk2a.2.2.2.1 ?_
    refine zF_getR 57 dX2_readFilm_54 rfl gX2_132 hk2a.ch.1 hk2a.ch.2.1 (cX_2109 hk2a).1 ?_
    refine zF_iload_n 58 dX2_readFilm_57 rfl rfl ?_
    refine zF_aload_n 59 dX2_readFilm_58 rfl rfl ?_
    refine zF_getR 62 dX2_readFilm_59 rfl gX2_25 hk2a.1 hk2a.2.1 hk2a.2.2.1 ?_
    refine zF_iconst 63 dX2_readFilm_62 rfl ?_
    refine zF_bipush 65 dX2_readFilm_63 rfl (by decide) ?_
    refine zF_callV 68 (d2 := (d + 5)) (as := [zI 0, zI 100]) dX2_readFilm_65 rfl kX2_91 iX9_takeNumber (ci := 9) rfl eX9_takeNumber (Nat.le_refl _) (cTk_si (σ := σa2) (k0 := 2108) hk2a (by decide) hT2a).1 (cTk_si (σ := σa2) (k0 := 2108) hk2a (by decide) hT2a).2.1 rfl rfl (Nat.le_of_ble_eq_true rfl) (zE.mono (zt_X9_takeNumber (σ := (zsi σa2 (B 2108) (D 2) (tNumV t L 0 9999 (tAdv t L s)))) (cTk_si (σ := σa2) (k0 := 2108) hk2a (by decide) hT2a) (cTs_si (σ := σa2) (k0 := 2108) hk2a (by decide) hs2a) (by first | decide | assumption | exact hv.b _ | (constructor <;> omega)) (by first | decide | assumption | exact hv.b _ | (constructor <;> omega))) fun ro σa3 hh3 => ?_)
    obtain ⟨er3, fr3, p3⟩ := hh3
    subst er3
    refine ⟨fr3.1, ?_⟩
    show zF G mX2_readFilm (d + 6) 68 [(1, zI (D 2)), (0, zR (B 30))] [zI (tNumV t L 0 100 (tNumS t L 0 9999 (tAdv t L s))), zI (D 2), zR (B 2109)] σa3 _
    have hk3a := cCt_fr (σ := (zsi σa2 (B 2108) (D 2) (tNumV t L 0 9999 (tAdv t L s)))) hk2a fr3
    have hT3a := cTk_ad (σ := (zsi σa2 (B 2108) (D 2) (tNumV t L 0 9999 (tAdv t L s)))) (cTk_si (σ := σa2) (k0 := 2108) hk2a (by decide) hT2a) fr3
    have hs3a : cTs σa3 B t L (tNumS t L 0 100 (tNumS t L 0 9999 (tAdv t L s))) := p3
    have hC3a : CC σa3 B (zup (fun k j => zia σ (B k) j) 2108 (D 2) (tNumV t L 0 9999 (tAdv t L s))) := CC_tk (σ := (zsi σa2 (B 2108) (D 2) (tNumV t L 0 9999 (tAdv t L s)))) hk2a fr3 (CC_si (σ := σa2) (k0 := 2108) hk2a hC2a)
    have eb3 := hs3a.2.2.2.2.2.2.2.2
    refine zF_iastore 69 dX2_readFilm_68 rfl (cX_2109 hk3a).2.2 (cX_2109 hk3a).2.1 (by omega) (by omega) ?_
    refine zF_aload_n 70 dX2_readFilm_69 rfl rfl ?_
    refine zF_getR 73 dX2_readFilm_70 rfl gX2_12 hk3a.1 hk3a.2.1 hk3a.2.2.2.1 ?_
    refine zF_getR 76 dX2_readFilm_73 rfl gX2_135 hk3a.ch.1 hk3a.ch.2.1 (cX_2110 hk3a).1 ?_
    refine zF_iload_n 77 dX2_readFilm_76 rfl rfl ?_
    refine zF_aload_n 78 dX2_readFilm_77 rfl rfl ?_
    refine zF_getR 81 dX2_readFilm_78 rfl gX2_25 hk3a.1 hk3a.2.1 hk3a.2.2.1 ?_
    refine zF_iconst 82 dX2_readFilm_81 rfl ?_
    refine zF_sipush 85 dX2_readFilm_82 rfl (by decide) ?_
    refine zF_callV 88 (d2 := (d + 5)) (as := [zI 0, zI 9999]) dX2_readFilm_85 rfl kX2_91 iX9_takeNumber (ci := 9) rfl eX9_takeNumber (Nat.le_refl _) (cTk_si (σ := σa3) (k0 := 2109) hk3a (by decide) hT3a).1 (cTk_si (σ := σa3) (k0 := 2109) hk3a (by decide) hT3a).2.1 rfl rfl (Nat.le_of_ble_eq_true rfl) (zE.mono (zt_X9_takeNumber (σ := (zsi σa3 (B 2109) (D 2) (tNumV t L 0 100 (tNumS t L 0 9999 (tAdv t L s))))) (cTk_si (σ := σa3) (k0 := 2109) hk3a (by decide) hT3a) (cTs_si (σ := σa3) (k0 := 2109) hk3a (by decide) hs3a) (by first | decide | assumption | exact hv.b _ | (constructor <;> omega)) (by first | decide | assumption | exact hv.b _ | (constructor <;> omega))) fun ro σa4 hh4 => ?_)
    obtain ⟨er4, fr4, p4⟩ := hh4
    subst er4
    refine ⟨fr4.1, ?_⟩
    show zF G mX2_readFilm (d + 6) 88 [(1, zI (D 2)), (0, zR (B 30))] [zI (tNumV t L 0 9999 (tNumS t L 0 100 (tNumS t L 0 9999 (tAdv t L s)))), zI (D 2), zR (B 2110)] σa4 _
    have hk4a := cCt_fr (σ := (zsi σa3 (B 2109) (D 2) (tNumV t L 0 100 (tNumS t L 0 9999 (tAdv t L s))))) hk3a fr4
    have hT4a := cTk_ad (σ := (zsi σa3 (B 2109) (D 2) (tNumV t L 0 100 (tNumS t L 0 9999 (tAdv t L s))))) (cTk_si (σ := σa3) (k0 := 2109) hk3a (by decide) hT3a) fr4
    have hs4a : cTs σa4 B t L (tNumS t L 0 9999 (tNumS t L 0 100 (tNumS t L 0 9999 (tAdv t L s)))) := p4
    have hC4a : CC σa4 B (zup (zup (fun k j => zia σ (B k) j) 2108 (D 2) (tNumV t L 0 9999 (tAdv t L s))) 2109 (D 2) (tNumV t L 0 100 (tNumS t L 0 9999 (tAdv t L s)))) := CC_tk (σ := (zsi σa3 (B 2109) (D 2) (tNumV t L 0 100 (tNumS t L 0 9999 (tAdv t L s))))) hk3a fr4 (CC_si (σ := σa3) (k0 := 2109) hk3a hC3a)
    have eb4 := hs4a.2.2.2.2.2.2.2.2
    refine zF_iastore 89 dX2_readFilm_88 rfl (cX_2110 hk4a).2.2 (cX_2110 hk4a).2.1 (by omega) (by omega) ?_
    refine zF_aload_n 90 dX2_readFilm_89 rfl rfl ?_
    refine zF_iload_n 91 dX2_readFilm_90 rfl rfl ?_
    refine zF_callV 94 (d2 := (d + 5)) (as := [zI (D 2)]) dX2_readFilm_91 rfl kX2_138 iX2_readTerms (ci := 2) rfl eX2_readTerms (Nat.le_refl _) hk4a.1 hk4a.2.1 rfl rfl (Nat.le_of_ble_eq_true rfl) (zE.mono (zt_X2_readTerms (σ := (zsi σa4 (B 2110) (D 2) (tNumV t L 0 9999 (tNumS t L 0 100 (tNumS t L 0 9999 (tAdv t L s)))))) hk4a (cTk_si (σ := σa4) (k0 := 2110) hk4a (by decide) hT4a) (cTs_si (σ := σa4) (k0 := 2110) hk4a (by decide) hs4a) (CC_si (σ := σa4) (k0 := 2110) hk4a hC4a) (by omega) (by omega)) fun ro σa5 hh5 => ?_)
    obtain ⟨er5, fr5, p5⟩ := hh5
    subst er5
    refine ⟨fr5.1, ?_⟩
    show zF G mX2_readFilm (d + 6) 94 [(1, zI (D 2)), (0, zR (B 30))] [] σa5 _
    have hk5a := cCt_fr (σ := (zsi σa4 (B 2110) (D 2) (tNumV t L 0 9999 (tNumS t L 0 100 (tNumS t L 0 9999 (tAdv t L s)))))) hk4a fr5
    have hT5a := cTk_l (σ := (zsi σa4 (B 2110) (D 2) (tNumV t L 0 9999 (tNumS t L 0 100 (tNumS t L 0 9999 (tAdv t L s)))))) hk4a (cTk_si (σ := σa4) (k0 := 2110) hk4a (by decide) hT4a) fr5
    have hs5a : cTs σa5 B t L (tIt t L (tNumS t L 0 9999 (tNumS t L 0 100 (tNumS t L 0 9999 (tAdv t L s)))) (tmC t L (tNumS t L 0 9999 (tNumS t L 0 100 (tNumS t L 0 9999 (tAdv t L s)))))) := p5.1
    have hC5a : CC σa5 B (zup (ctm t L (zup (zup (zup (fun k j => zia σ (B k) j) 2108 (D 2) (tNumV t L 0 9999 (tAdv t L s))) 2109 (D 2) (tNumV t L 0 100 (tNumS t L 0 9999 (tAdv t L s)))) 2110 (D 2) (tNumV t L 0 9999 (tNumS t L 0 100 (tNumS t L 0 9999 (tAdv t L s))))) (tNumS t L 0 9999 (tNumS t L 0 100 (tNumS t L 0 9999 (tAdv t L s)))) ((D 2) * 4) (tmC t L (tNumS t L 0 9999 (tNumS t L 0 100 (tNumS t L 0 9999 (tAdv t L s)))))) 2111 (D 2) (tmC t L (tNumS t L 0 9999 (tNumS t L 0 100 (tNumS t L 0 9999 (tAdv t L s)))) : Int)) := p5.2
    refine zF_aload_n 95 dX2_readFilm_94 rfl rfl ?_
    refine zF_getR 98 dX2_readFilm_95 rfl gX2_25 hk5a.1 hk5a.2.1 hk5a.2.2.1 ?_
    refine zF_bipush 100 dX2_readFilm_98 rfl (by decide) ?_
    refine zF_callV 103 (d2 := (d + 5)) (as := [zI 59]) dX2_readFilm_100 rfl kX2_101 iX9_takeSign (ci := 9) rfl eX9_takeSign (Nat.le_refl _) hT5a.1 hT5a.2.1 rfl rfl (Nat.le_of_ble_eq_true rfl) (zE.mono (zt_X9_takeSign (σ := σa5) hT5a hs5a (by decide)) fun ro σa6 hh6 => ?_)
    obtain ⟨er6, fr6, p6⟩ := hh6
    subst er6
    refine ⟨fr6.1, ?_⟩
    show zF G mX2_readFilm (d + 6) 103 [(1, zI (D 2)), (0, zR (B 30))] [] σa6 _
    have hk6a := cCt_fr (σ := σa5) hk5a fr6
    have hT6a := cTk_ad (σ := σa5) hT5a fr6
    have hs6a : cTs σa6 B t L (tSgS t L 59 (tIt t L (tNumS t L 0 9999 (tNumS t L 0 100 (tNumS t L 0 9999 (tAdv t L s)))) (tmC t L (tNumS t L 0 9999 (tNumS t L 0 100 (tNumS t L 0 9999 (tAdv t L s))))))) := p6
    have hC6a : CC σa6 B (zup (ctm t L (zup (zup (zup (fun k j => zia σ (B k) j) 2108 (D 2) (tNumV t L 0 9999 (tAdv t L s))) 2109 (D 2) (tNumV t L 0 100 (tNumS t L 0 9999 (tAdv t L s)))) 2110 (D 2) (tNumV t L 0 9999 (tNumS t L 0 100 (tNumS t L 0 9999 (tAdv t L s))))) (tNumS t L 0 9999 (tNumS t L 0 100 (tNumS t L 0 9999 (tAdv t L s)))) ((D 2) * 4) (tmC t L (tNumS t L 0 9999 (tNumS t L 0 100 (tNumS t L 0 9999 (tAdv t L s)))))) 2111 (D 2) (tmC t L (tNumS t L 0 9999 (tNumS t L 0 100 (tNumS t L 0 9999 (tAdv t L s)))) : Int)) := CC_tk (σ := σa5) hk5a fr6 hC5a
    have eb6 := hs6a.2.2.2.2.2.2.2.2
    refine zF_aload_n 104 dX2_readFilm_103 rfl rfl ?_
    refine zF_getR 107 dX2_readFilm_104 rfl gX2_21 hk6a.1 hk6a.2.1 hk6a.2.2.2.2.1 ?_
    refine zF_getR 110 dX2_readFilm_107 rfl gX2_141 hk6a.st.1 hk6a.st.2.1 (cX_2211 hk6a).1 ?_
    refine zF_iload_n 111 dX2_readFilm_110 rfl rfl ?_
    refine zF_aload_n 112 dX2_readFilm_111 rfl rfl ?_
    refine zF_getR 115 dX2_readFilm_112 rfl gX2_12 hk6a.1 hk6a.2.1 hk6a.2.2.2.1 ?_
    refine zF_getR 118 dX2_readFilm_115 rfl gX2_129 hk6a.ch.1 hk6a.ch.2.1 (cX_2108 hk6a).1 ?_
    refine zF_iload_n 119 dX2_readFilm_118 rfl rfl ?_
    refine zF_iaload 120 dX2_readFilm_119 rfl (cX_2108 hk6a).2.2 (cX_2108 hk6a).2.1 (by omega) (by omega) (show zia σa6 (B 2108) (D 2) = (tNumV t L 0 9999 (tAdv t L s)) from ((((((hC6a 2108 (D 2) (by decide) (by decide)).trans (zup_n (by decide))).trans (ctm_n (by decide))).trans (zup_n (by decide))).trans (zup_n (by decide))).trans zup_e)) ?_
    refine zF_iastore 121 dX2_readFilm_120 rfl (cX_2211 hk6a).2.2 (cX_2211 hk6a).2.1 (by omega) (by omega) ?_
    refine zF_aload_n 122 dX2_readFilm_121 rfl rfl ?_
    refine zF_getR 125 dX2_readFilm_122 rfl gX2_12 hk6a.1 hk6a.2.1 hk6a.2.2.2.1 ?_
    refine zF_dup 126 dX2_readFilm_125 rfl rfl ?_
    refine zF_getI 129 dX2_readFilm_126 rfl gX2_126 (by decide) (by decide) hk6a.ch.1 hk6a.ch.2.1 (show zia (zsi σa6 (B 2211) (D 2) (tNumV t L 0 9999 (tAdv t L s))) (B 2100) 7 = (D 2) from (((((((((CC_si (σ := σa6) (k0 := 2211) hk6a hC6a) 2100 7 (by decide) (by decide)).trans (zup_n (by decide))).trans (zup_n (by decide))).trans (ctm_n (by decide))).trans (zup_n (by decide))).trans (zup_n (by decide))).trans (zup_n (by decide))).trans hd.1.2.2)) ?_
    refine zF_iconst 130 dX2_readFilm_129 rfl ?_
    refine zF_iadd 131 dX2_readFilm_130 rfl ?_
    refine zF_putI 134 dX2_readFilm_131 rfl pX2_readFilm_126 (Or.inl rfl) hk6a.ch.1 hk6a.ch.2.1 ?_
    exact zF_return dX2_readFilm_134 rfl ((by
    have e : ldFilm t L (s, D) = (tIt t L (tNumS t L 0 9999 (tNumS t L 0 100 (tNumS t L 0 9999 (tAdv t L s)))) (tmC t L (tNumS t L 0 9999 (tNumS t L 0 100 (tNumS t L 0 9999 (tAdv t L s))))), mSet (mSet (mSet (mTm t L (mSet (mSet (mSet D (94 + 10 * D 2 + 0) (tNumV t L 0 9999 (tAdv t L s))) (94 + 10 * D 2 + 1) (tNumV t L 0 100 (tNumS t L 0 9999 (tAdv t L s)))) (94 + 10 * D 2 + 2) (tNumV t L 0 9999 (tNumS t L 0 100 (tNumS t L 0 9999 (tAdv t L s))))) (tNumS t L 0 9999 (tNumS t L 0 100 (tNumS t L 0 9999 (tAdv t L s)))) (94 + 10 * D 2 + 4) (tmC t L (tNumS t L 0 9999 (tNumS t L 0 100 (tNumS t L 0 9999 (tAdv t L s)))))) (94 + 10 * D 2 + 3) (tmC t L (tNumS t L 0 9999 (tNumS t L 0 100 (tNumS t L 0 9999 (tAdv t L s)))) : Int)) (94 + 10 * D 2 + 8) (-1)) 2 (D 2 + 1)) := if_pos (by show D 2 < 6; omega)
    rw [e]
    exact ⟨rfl, (zFr_si (Or.inr ⟨2100, by decide, by decide, rfl⟩) (zFr_si (Or.inr ⟨2211, by decide, by decide, rfl⟩) (((zFr_si (Or.inr ⟨2110, by decide, by decide, rfl⟩) ((zFr_si (Or.inr ⟨2109, by decide, by decide, rfl⟩) ((zFr_si (Or.inr ⟨2108, by decide, by decide, rfl⟩) ((PTk_l fr1).tr (PTk_l fr2))).tr (PTk_l fr3))).tr (PTk_l fr4))).tr fr5).tr (PTk_l fr6)))), (cTs_si (σ := (zsi σa6 (B 2211) (D 2) (tNumV t L 0 9999 (tAdv t L s)))) (k0 := 2100) hk6a (by decide) (cTs_si (σ := σa6) (k0 := 2211) hk6a (by decide) hs6a)), fun _ => cDm_of (cD_film hd hv (by omega) tmC_b.2) (CC_si (σ := (zsi σa6 (B 2211) (D 2) (tNumV t L 0 9999 (tAdv t L s)))) (k0 := 2100) hk6a (CC_si (σ := σa6) (k0 := 2211) hk6a hC6a))⟩))
  · refine zF_aload_n 15 dX2_readFilm_14 rfl rfl ?_
    refine zF_getR 18 dX2_readFilm_15 rfl gX2_25 hk.1 hk.2.1 hk.2.2.1 ?_
    refine zF_iconst 19 dX2_readFilm_18 rfl ?_
    refine zF_callV 22 (d2 := (d + 5)) (as := [zI 3]) dX2_readFilm_19 rfl kX2_78 iX9_fail (ci := 9) rfl eX9_fail (Nat.le_refl _) hT.1 hT.2.1 rfl rfl (Nat.le_of_ble_eq_true rfl) (zE.mono (zt_X9_fail (σ := σ) (c := 3) hT hs (by decide) (by decide)) fun ro σa7 hh7 => ?_)
    obtain ⟨er7, fr7, p7⟩ := hh7
    subst er7
    refine ⟨fr7.1, ?_⟩
    show zF G mX2_readFilm (d + 6) 22 [(1, zI (D 2)), (0, zR (B 30))] [] σa7 _
    have hk7a := cCt_fr (σ := σ) hk fr7
    have hT7a := cTk_ad (σ := σ) hT fr7
    have hs7a : cTs σa7 B t L (tFail 3 s) := p7
    have hC7a : CC σa7 B (fun k j => zia σ (B k) j) := CC_tk (σ := σ) hk fr7 hC
    have eb7 := hs7a.2.2.2.2.2.2.2.2
    exact zF_return dX2_readFilm_22 rfl ((by
    have e : ldFilm t L (s, D) = (tFail 3 s, D) := if_neg (by show ¬ D 2 < 6; omega)
    rw [e]
    have e2 : tSgS t L 59 (tFail 3 s) = tFail 3 s := tSgS_e (tFail_2 (by decide))
    refine ⟨rfl, (PTk_l fr7), ?_, fun z => absurd z ?_⟩
    · show cTs _ B t L (tSgS t L 59 (tFail 3 s)); rw [e2]; exact hs7a
    · show ¬ (tSgS t L 59 (tFail 3 s)).2 = 0; rw [e2]; exact tFail_2 (by decide)))
theorem zt_X2_readFee  (hG : zOS G) (hk : cCt σ B) (hT : cTk σ B t L) (hs : cTs σ B t L s) (hd : cDm D σ B) (hv : ldV D) : zE G mX2_readFee (d + 6) [zR (B 30)] σ (fun ro σ1 => ro = .inl none ∧ zFr (PLd B) σ σ1 ∧ cTs σ1 B t L (tSgS t L 59 (tNumS t L 0 999 s, mSet D 4 (tNumV t L 0 999 s)).1) ∧ ((tSgS t L 59 (tNumS t L 0 999 s, mSet D 4 (tNumV t L 0 999 s)).1).2 = 0 → cDm (tNumS t L 0 999 s, mSet D 4 (tNumV t L 0 999 s)).2 σ1 B)) := by
  refine zE_of rfl (by simp [zcat]) (Nat.le_of_ble_eq_true rfl) ?_
  show zF G mX2_readFee (d + 6) 0 [(0, zR (B 30))] [] σ _
  have hn := hv.n
  have hL7 : L ≤ 700 := hT.2.2.2.2.2.2.1
  have hC : CC σ B (fun k j => zia σ (B k) j) := fun _ _ _ _ => rfl
  have es := hs.2.2.2.2.2.2.2.2
  refine zF_aload_n 1 dX2_readFee_0 rfl rfl ?_
  refine zF_getR 4 dX2_readFee_1 rfl gX2_21 hk.1 hk.2.1 hk.2.2.2.2.1 ?_
  refine zF_aload_n 5 dX2_readFee_4 rfl rfl ?_
  refine zF_getR 8 dX2_readFee_5 rfl gX2_25 hk.1 hk.2.1 hk.2.2.1 ?_
  refine zF_iconst 9 dX2_readFee_8 rfl ?_
  refine zF_sipush 12 dX2_readFee_9 rfl (by decide) ?_
  refine zF_callV 15 (d2 := (d + 5)) (as := [zI 0, zI 999]) dX2_readFee_12 rfl kX2_91 iX9_takeNumber (ci := 9) rfl eX9_takeNumber (Nat.le_refl _) hT.1 hT.2.1 rfl rfl (Nat.le_of_ble_eq_true rfl) (zE.mono (zt_X9_takeNumber (σ := σ) hT hs (by first | decide | assumption | exact hv.b _ | (constructor <;> omega)) (by first | decide | assumption | exact hv.b _ | (constructor <;> omega))) fun ro σa1 hh1 => ?_)
  obtain ⟨er1, fr1, p1⟩ := hh1
  subst er1
  refine ⟨fr1.1, ?_⟩
  show zF G mX2_readFee (d + 6) 15 [(0, zR (B 30))] [zI (tNumV t L 0 999 s), zR (B 2200)] σa1 _
  have hk1a := cCt_fr (σ := σ) hk fr1
  have hT1a := cTk_ad (σ := σ) hT fr1
  have hs1a : cTs σa1 B t L (tNumS t L 0 999 s) := p1
  have hC1a : CC σa1 B (fun k j => zia σ (B k) j) := CC_tk (σ := σ) hk fr1 hC
  have eb1 := hs1a.2.2.2.2.2.2.2.2
  refine zF_putI 18 dX2_readFee_15 rfl pX2_readFee_159 (Or.inl rfl) hk1a.st.1 hk1a.st.2.1 ?_
  refine zF_aload_n 19 dX2_readFee_18 rfl rfl ?_
  refine zF_getR 22 dX2_readFee_19 rfl gX2_25 hk1a.1 hk1a.2.1 hk1a.2.2.1 ?_
  refine zF_bipush 24 dX2_readFee_22 rfl (by decide) ?_
  refine zF_callV 27 (d2 := (d + 5)) (as := [zI 59]) dX2_readFee_24 rfl kX2_101 iX9_takeSign (ci := 9) rfl eX9_takeSign (Nat.le_refl _) (cTk_si (σ := σa1) (k0 := 2200) hk1a (by decide) hT1a).1 (cTk_si (σ := σa1) (k0 := 2200) hk1a (by decide) hT1a).2.1 rfl rfl (Nat.le_of_ble_eq_true rfl) (zE.mono (zt_X9_takeSign (σ := (zsi σa1 (B 2200) ((2 : Nat) : Int) (tNumV t L 0 999 s))) (cTk_si (σ := σa1) (k0 := 2200) hk1a (by decide) hT1a) (cTs_si (σ := σa1) (k0 := 2200) hk1a (by decide) hs1a) (by decide)) fun ro σa2 hh2 => ?_)
  obtain ⟨er2, fr2, p2⟩ := hh2
  subst er2
  refine ⟨fr2.1, ?_⟩
  show zF G mX2_readFee (d + 6) 27 [(0, zR (B 30))] [] σa2 _
  have hk2a := cCt_fr (σ := (zsi σa1 (B 2200) ((2 : Nat) : Int) (tNumV t L 0 999 s))) hk1a fr2
  have hT2a := cTk_ad (σ := (zsi σa1 (B 2200) ((2 : Nat) : Int) (tNumV t L 0 999 s))) (cTk_si (σ := σa1) (k0 := 2200) hk1a (by decide) hT1a) fr2
  have hs2a : cTs σa2 B t L (tSgS t L 59 (tNumS t L 0 999 s)) := p2
  have hC2a : CC σa2 B (zup (fun k j => zia σ (B k) j) 2200 2 (tNumV t L 0 999 s)) := CC_tk (σ := (zsi σa1 (B 2200) ((2 : Nat) : Int) (tNumV t L 0 999 s))) hk1a fr2 (CC_si (σ := σa1) (k0 := 2200) hk1a hC1a)
  have eb2 := hs2a.2.2.2.2.2.2.2.2
  exact zF_return dX2_readFee_27 rfl (⟨rfl, ((zFr_si (Or.inr ⟨2200, by decide, by decide, rfl⟩) (PTk_l fr1)).tr (PTk_l fr2)), hs2a, fun _ => cDm_of (cD_fee hd hv) hC2a⟩)
theorem zt_X8_printsAt9 {f p : Int} (hk : cCt σ B) (hC : CC σ B c) (s0 : 0 ≤ f * 5 + p + 1) (s1 : f * 5 + p + 1 < 30) : zP1 G mX8_printsAt d [zR (B 2200), zI f, zI p] σ (c 2205 (f * 5 + p + 1)) := by
  refine zE_of rfl (by simp [zcat]) (Nat.le_of_ble_eq_true rfl) ?_
  show zF G mX8_printsAt d 0 [(0, zR (B 2200)), (1, zI f), (2, zI p)] [] σ _
  refine zF_aload_n 1 dX8_printsAt_0 rfl rfl ?_
  refine zF_getR 4 dX8_printsAt_1 rfl gX8_18 hk.st.1 hk.st.2.1 (cX_2205 hk).1 ?_
  refine zF_iload_n 5 dX8_printsAt_4 rfl rfl ?_
  refine zF_iconst 6 dX8_printsAt_5 rfl ?_
  refine zF_imul 7 dX8_printsAt_6 rfl ?_
  refine zF_iload_n 8 dX8_printsAt_7 rfl rfl ?_
  refine zF_iadd 9 dX8_printsAt_8 rfl ?_
  refine zF_iconst 10 dX8_printsAt_9 rfl ?_
  refine zF_iadd 11 dX8_printsAt_10 rfl ?_
  refine zF_iaload 12 dX8_printsAt_11 rfl (cX_2205 hk).2.2 (cX_2205 hk).2.1 (by omega) (by omega) (show zia σ (B 2205) (((f * 5) + p) + 1) = (c 2205 (((f * 5) + p) + 1)) from (hC 2205 (((f * 5) + p) + 1) (by decide) (by decide))) ?_
  exact zF_iretP dX8_printsAt_12 rfl (rfl)
theorem zt_X8_addPrints9 {f p v : Int} (hk : cCt σ B) (hC : CC σ B c) (s0 : 0 ≤ f * 5 + p + 1) (s1 : f * 5 + p + 1 < 30) : zE G mX8_addPrints d [zR (B 2200), zI f, zI p, zI v] σ (fun ro σ1 => ro = .inl none ∧ σ1 = zsi σ (B 2205) (f * 5 + p + 1) (c 2205 (f * 5 + p + 1) + v)) := by
  refine zE_of rfl (by simp [zcat]) (Nat.le_of_ble_eq_true rfl) ?_
  show zF G mX8_addPrints d 0 [(0, zR (B 2200)), (1, zI f), (2, zI p), (3, zI v)] [] σ _
  refine zF_aload_n 1 dX8_addPrints_0 rfl rfl ?_
  refine zF_getR 4 dX8_addPrints_1 rfl gX8_18 hk.st.1 hk.st.2.1 (cX_2205 hk).1 ?_
  refine zF_iload_n 5 dX8_addPrints_4 rfl rfl ?_
  refine zF_iconst 6 dX8_addPrints_5 rfl ?_
  refine zF_imul 7 dX8_addPrints_6 rfl ?_
  refine zF_iload_n 8 dX8_addPrints_7 rfl rfl ?_
  refine zF_iadd 9 dX8_addPrints_8 rfl ?_
  refine zF_iconst 10 dX8_addPrints_9 rfl ?_
  refine zF_iadd 11 dX8_addPrints_10 rfl ?_
  refine zF_dup2 12 dX8_addPrints_11 rfl rfl rfl ?_
  refine zF_iaload 13 dX8_addPrints_12 rfl (cX_2205 hk).2.2 (cX_2205 hk).2.1 (by omega) (by omega) (show zia σ (B 2205) (((f * 5) + p) + 1) = (c 2205 (((f * 5) + p) + 1)) from (hC 2205 (((f * 5) + p) + 1) (by decide) (by decide))) ?_
  refine zF_iload_n 14 dX8_addPrints_13 rfl rfl ?_
  refine zF_iadd 15 dX8_addPrints_14 rfl ?_
  refine zF_iastore 16 dX8_addPrints_15 rfl (cX_2205 hk).2.2 (cX_2205 hk).2.1 (by omega) (by omega) ?_
  exact zF_return dX8_addPrints_16 rfl (⟨rfl, rfl⟩)
theorem zt_X2_readPrints  (hG : zOS G) (hk : cCt σ B) (hT : cTk σ B t L) (hs : cTs σ B t L s) (hd : cDm D σ B) (hv : ldV D) : zE G mX2_readPrints (d + 6) [zR (B 30)] σ (fun ro σ1 => ro = .inl none ∧ zFr (PLd B) σ σ1 ∧ cTs σ1 B t L (tSgS t L 59 (ldPr t L s D).1) ∧ ((tSgS t L 59 (ldPr t L s D).1).2 = 0 → cDm (ldPr t L s D).2 σ1 B)) := by
  refine zE_of rfl (by simp [zcat]) (Nat.le_of_ble_eq_true rfl) ?_
  show zF G mX2_readPrints (d + 6) 0 [(0, zR (B 30))] [] σ _
  have hn := hv.n
  have hL7 : L ≤ 700 := hT.2.2.2.2.2.2.1
  have hC : CC σ B (fun k j => zia σ (B k) j) := fun _ _ _ _ => rfl
  have es := hs.2.2.2.2.2.2.2.2
  refine zF_aload_n 1 dX2_readPrints_0 rfl rfl ?_
  refine zF_getR 4 dX2_readPrints_1 rfl gX2_25 hk.1 hk.2.1 hk.2.2.1 ?_
  refine zF_iconst 5 dX2_readPrints_4 rfl ?_
  refine zF_aload_n 6 dX2_readPrints_5 rfl rfl ?_
  refine zF_getR 9 dX2_readPrints_6 rfl gX2_12 hk.1 hk.2.1 hk.2.2.2.1 ?_
  refine zF_getI 12 dX2_readPrints_9 rfl gX2_126 (by decide) (by decide) hk.ch.1 hk.ch.2.1 (show zia σ (B 2100) 7 = (D 2) from ((hC 2100 7 (by decide) (by decide)).trans hd.1.2.2)) ?_
  refine zF_iconst 13 dX2_readPrints_12 rfl ?_
  refine zF_isub 14 dX2_readPrints_13 rfl ?_
  refine zF_callV 17 (d2 := (d + 5)) (as := [zI 0, zI ((D 2) - 1)]) dX2_readPrints_14 rfl kX2_91 iX9_takeNumber (ci := 9) rfl eX9_takeNumber (Nat.le_refl _) hT.1 hT.2.1 rfl rfl (Nat.le_of_ble_eq_true rfl) (zE.mono (zt_X9_takeNumber (σ := σ) hT hs (by first | decide | assumption | exact hv.b _ | (constructor <;> omega)) (by first | decide | assumption | exact hv.b _ | (constructor <;> omega))) fun ro σa1 hh1 => ?_)
  obtain ⟨er1, fr1, p1⟩ := hh1
  subst er1
  refine ⟨fr1.1, ?_⟩
  show zF G mX2_readPrints (d + 6) 17 [(0, zR (B 30))] [zI (tNumV t L 0 ((D 2) - 1) s)] σa1 _
  have hk1a := cCt_fr (σ := σ) hk fr1
  have hT1a := cTk_ad (σ := σ) hT fr1
  have hs1a : cTs σa1 B t L (tNumS t L 0 ((D 2) - 1) s) := p1
  have hC1a : CC σa1 B (fun k j => zia σ (B k) j) := CC_tk (σ := σ) hk fr1 hC
  have eb1 := hs1a.2.2.2.2.2.2.2.2
  have nl1 := tNumV_l (t := t) (L := L) (s := s) (lo := 0) (hi := ((D 2) - 1))
  have nu1 := tNumV_u (t := t) (L := L) (s := s) (lo := 0) (hi := ((D 2) - 1))
  refine zF_istore_n 18 (ls' := [(1, zI (tNumV t L 0 ((D 2) - 1) s)), (0, zR (B 30))]) dX2_readPrints_17 rfl (by decide) rfl ?_
  refine zF_aload_n 19 dX2_readPrints_18 rfl rfl ?_
  refine zF_getR 22 dX2_readPrints_19 rfl gX2_25 hk1a.1 hk1a.2.1 hk1a.2.2.1 ?_
  refine zF_ldcS 24 (i := 5) dX2_readPrints_22 rfl rfl ?_
  refine zF_callV 27 (d2 := (d + 5)) (as := [zR (zbg + 5)]) dX2_readPrints_24 rfl kX2_67 iX9_takeWord (ci := 9) rfl eX9_takeWord (Nat.le_refl _) hT1a.1 hT1a.2.1 rfl rfl (Nat.le_of_ble_eq_true rfl) (zE.mono (zt_X9_takeWord (σ := σa1) hT1a hs1a hG (by decide)) fun ro σa2 hh2 => ?_)
  obtain ⟨er2, fr2, p2⟩ := hh2
  subst er2
  refine ⟨fr2.1, ?_⟩
  show zF G mX2_readPrints (d + 6) 27 [(1, zI (tNumV t L 0 ((D 2) - 1) s)), (0, zR (B 30))] [zI (zb (tWd t L (zsbi 5) (tNumS t L 0 ((D 2) - 1) s)))] σa2 _
  have hk2a := cCt_fr (σ := σa1) hk1a fr2
  have hT2a := cTk_ad (σ := σa1) hT1a fr2
  have hs2a : cTs σa2 B t L (if tWd t L (zsbi 5) (tNumS t L 0 ((D 2) - 1) s) then tAdv t L (tNumS t L 0 ((D 2) - 1) s) else (tNumS t L 0 ((D 2) - 1) s)) := p2
  have hC2a : CC σa2 B (fun k j => zia σ (B k) j) := CC_tk (σ := σa1) hk1a fr2 hC1a
  have eb2 := hs2a.2.2.2.2.2.2.2.2
  refine zF_ifb_eq 34 30 dX2_readPrints_27 rfl rfl (fun c1 => ?_) (fun c1 => ?_)
  · have hqh : cTs σa2 B t L (tNumS t L 0 (D 2 - 1) s) := cTs_to hs2a (if_neg (by assumption))
    refine zF_aload_n 35 dX2_readPrints_34 rfl rfl ?_
    refine zF_getR 38 dX2_readPrints_35 rfl gX2_25 hk2a.1 hk2a.2.1 hk2a.2.2.1 ?_
    refine zF_iconst 39 dX2_readPrints_38 rfl ?_
    refine zF_aload_n 40 dX2_readPrints_39 rfl rfl ?_
    refine zF_getR 43 dX2_readPrints_40 rfl gX2_12 hk2a.1 hk2a.2.1 hk2a.2.2.2.1 ?_
    refine zF_getI 46 dX2_readPrints_43 rfl gX2_81 (by decide) (by decide) hk2a.ch.1 hk2a.ch.2.1 (show zia σa2 (B 2100) 0 = (D 0) from ((hC2a 2100 0 (by decide) (by decide)).trans hd.1.1)) ?_
    refine zF_iconst 47 dX2_readPrints_46 rfl ?_
    refine zF_isub 48 dX2_readPrints_47 rfl ?_
    refine zF_callV 51 (d2 := (d + 5)) (as := [zI 0, zI ((D 0) - 1)]) dX2_readPrints_48 rfl kX2_91 iX9_takeNumber (ci := 9) rfl eX9_takeNumber (Nat.le_refl _) hT2a.1 hT2a.2.1 rfl rfl (Nat.le_of_ble_eq_true rfl) (zE.mono (zt_X9_takeNumber (σ := σa2) hT2a hqh (by first | decide | assumption | exact hv.b _ | (constructor <;> omega)) (by first | decide | assumption | exact hv.b _ | (constructor <;> omega))) fun ro σa3 hh3 => ?_)
    obtain ⟨er3, fr3, p3⟩ := hh3
    subst er3
    refine ⟨fr3.1, ?_⟩
    show zF G mX2_readPrints (d + 6) 51 [(1, zI (tNumV t L 0 ((D 2) - 1) s)), (0, zR (B 30))] [zI (tNumV t L 0 ((D 0) - 1) (tNumS t L 0 (D 2 - 1) s))] σa3 _
    have hk3a := cCt_fr (σ := σa2) hk2a fr3
    have hT3a := cTk_ad (σ := σa2) hT2a fr3
    have hs3a : cTs σa3 B t L (tNumS t L 0 ((D 0) - 1) (tNumS t L 0 (D 2 - 1) s)) := p3
    have hC3a : CC σa3 B (fun k j => zia σ (B k) j) := CC_tk (σ := σa2) hk2a fr3 hC2a
    have eb3 := hs3a.2.2.2.2.2.2.2.2
    have nl3 := tNumV_l (t := t) (L := L) (s := (tNumS t L 0 (D 2 - 1) s)) (lo := 0) (hi := ((D 0) - 1))
    have nu3 := tNumV_u (t := t) (L := L) (s := (tNumS t L 0 (D 2 - 1) s)) (lo := 0) (hi := ((D 0) - 1))
    refine zF_istore_n 52 (ls' := [(2, zI (tNumV t L 0 ((D 0) - 1) (tNumS t L 0 (D 2 - 1) s))), (1, zI (tNumV t L 0 ((D 2) - 1) s)), (0, zR (B 30))]) dX2_readPrints_51 rfl (by decide) rfl ?_
    refine zF_aload_n 53 dX2_readPrints_52 rfl rfl ?_
    refine zF_getR 56 dX2_readPrints_53 rfl gX2_25 hk3a.1 hk3a.2.1 hk3a.2.2.1 ?_
    refine zF_iconst 57 dX2_readPrints_56 rfl ?_
    refine zF_bipush 59 dX2_readPrints_57 rfl (by decide) ?_
    refine zF_callV 62 (d2 := (d + 5)) (as := [zI 0, zI 9]) dX2_readPrints_59 rfl kX2_91 iX9_takeNumber (ci := 9) rfl eX9_takeNumber (Nat.le_refl _) hT3a.1 hT3a.2.1 rfl rfl (Nat.le_of_ble_eq_true rfl) (zE.mono (zt_X9_takeNumber (σ := σa3) hT3a hs3a (by first | decide | assumption | exact hv.b _ | (constructor <;> omega)) (by first | decide | assumption | exact hv.b _ | (constructor <;> omega))) fun ro σa4 hh4 => ?_)
    obtain ⟨er4, fr4, p4⟩ := hh4
    subst er4
    refine ⟨fr4.1, ?_⟩
    show zF G mX2_readPrints (d + 6) 62 [(2, zI (tNumV t L 0 ((D 0) - 1) (tNumS t L 0 (D 2 - 1) s))), (1, zI (tNumV t L 0 ((D 2) - 1) s)), (0, zR (B 30))] [zI (tNumV t L 0 9 (tNumS t L 0 ((D 0) - 1) (tNumS t L 0 (D 2 - 1) s)))] σa4 _
    have hk4a := cCt_fr (σ := σa3) hk3a fr4
    have hT4a := cTk_ad (σ := σa3) hT3a fr4
    have hs4a : cTs σa4 B t L (tNumS t L 0 9 (tNumS t L 0 ((D 0) - 1) (tNumS t L 0 (D 2 - 1) s))) := p4
    have hC4a : CC σa4 B (fun k j => zia σ (B k) j) := CC_tk (σ := σa3) hk3a fr4 hC3a
    have eb4 := hs4a.2.2.2.2.2.2.2.2
    have nl4 := tNumV_l (t := t) (L := L) (s := (tNumS t L 0 ((D 0) - 1) (tNumS t L 0 (D 2 - 1) s))) (lo := 0) (hi := 9)
    have nu4 := tNumV_u (t := t) (L := L) (s := (tNumS t L 0 ((D 0) - 1) (tNumS t L 0 (D 2 - 1) s))) (lo := 0) (hi := 9)
    refine zF_istore_n 63 (ls' := [(3, zI (tNumV t L 0 9 (tNumS t L 0 ((D 0) - 1) (tNumS t L 0 (D 2 - 1) s)))), (2, zI (tNumV t L 0 ((D 0) - 1) (tNumS t L 0 (D 2 - 1) s))), (1, zI (tNumV t L 0 ((D 2) - 1) s)), (0, zR (B 30))]) dX2_readPrints_62 rfl (by decide) rfl ?_
    refine zF_aload_n 64 dX2_readPrints_63 rfl rfl ?_
    refine zF_getR 67 dX2_readPrints_64 rfl gX2_25 hk4a.1 hk4a.2.1 hk4a.2.2.1 ?_
    refine zF_bipush 69 dX2_readPrints_67 rfl (by decide) ?_
    refine zF_callV 72 (d2 := (d + 5)) (as := [zI 59]) dX2_readPrints_69 rfl kX2_101 iX9_takeSign (ci := 9) rfl eX9_takeSign (Nat.le_refl _) hT4a.1 hT4a.2.1 rfl rfl (Nat.le_of_ble_eq_true rfl) (zE.mono (zt_X9_takeSign (σ := σa4) hT4a hs4a (by decide)) fun ro σa5 hh5 => ?_)
    obtain ⟨er5, fr5, p5⟩ := hh5
    subst er5
    refine ⟨fr5.1, ?_⟩
    show zF G mX2_readPrints (d + 6) 72 [(3, zI (tNumV t L 0 9 (tNumS t L 0 ((D 0) - 1) (tNumS t L 0 (D 2 - 1) s)))), (2, zI (tNumV t L 0 ((D 0) - 1) (tNumS t L 0 (D 2 - 1) s))), (1, zI (tNumV t L 0 ((D 2) - 1) s)), (0, zR (B 30))] [] σa5 _
    have hk5a := cCt_fr (σ := σa4) hk4a fr5
    have hT5a := cTk_ad (σ := σa4) hT4a fr5
    have hs5a : cTs σa5 B t L (tSgS t L 59 (tNumS t L 0 9 (tNumS t L 0 ((D 0) - 1) (tNumS t L 0 (D 2 - 1) s)))) := p5
    have hC5a : CC σa5 B (fun k j => zia σ (B k) j) := CC_tk (σ := σa4) hk4a fr5 hC4a
    have eb5 := hs5a.2.2.2.2.2.2.2.2
    refine zF_aload_n 73 dX2_readPrints_72 rfl rfl ?_
    refine zF_getR 76 dX2_readPrints_73 rfl gX2_21 hk5a.1 hk5a.2.1 hk5a.2.2.2.2.1 ?_
    refine zF_iload_n 77 dX2_readPrints_76 rfl rfl ?_
    refine zF_iload_n 78 dX2_readPrints_77 rfl rfl ?_
    refine zF_iload_n 79 dX2_readPrints_78 rfl rfl ?_
    refine zF_aload_n 80 dX2_readPrints_79 rfl rfl ?_
    refine zF_getR 83 dX2_readPrints_80 rfl gX2_21 hk5a.1 hk5a.2.1 hk5a.2.2.2.2.1 ?_
    refine zF_iload_n 84 dX2_readPrints_83 rfl rfl ?_
    refine zF_iload_n 85 dX2_readPrints_84 rfl rfl ?_
    refine zF_callVi 88 (d2 := (d + 5)) (as := [zI (tNumV t L 0 ((D 2) - 1) s), zI (tNumV t L 0 ((D 0) - 1) (tNumS t L 0 (D 2 - 1) s))]) dX2_readPrints_85 rfl kX2_152 iX8_printsAt (ci := 8) rfl eX8_printsAt (Nat.le_refl _) hk5a.st.1 hk5a.st.2.1 rfl rfl (Nat.le_of_ble_eq_true rfl) (zt_X8_printsAt9 (σ := σa5) (c := (fun k j => zia σ (B k) j)) hk5a hC5a (by omega) (by omega)) ?_
    refine zF_isub 89 dX2_readPrints_88 rfl ?_
    refine zF_callV 92 (d2 := (d + 5)) (as := [zI (tNumV t L 0 ((D 2) - 1) s), zI (tNumV t L 0 ((D 0) - 1) (tNumS t L 0 (D 2 - 1) s)), zI ((tNumV t L 0 9 (tNumS t L 0 ((D 0) - 1) (tNumS t L 0 (D 2 - 1) s))) - (zia σ (B 2205) ((tNumV t L 0 ((D 2) - 1) s) * 5 + (tNumV t L 0 ((D 0) - 1) (tNumS t L 0 (D 2 - 1) s)) + 1)))]) dX2_readPrints_89 rfl kX2_155 iX8_addPrints (ci := 8) rfl eX8_addPrints (Nat.le_refl _) hk5a.st.1 hk5a.st.2.1 rfl rfl (Nat.le_of_ble_eq_true rfl) (zE.mono (zt_X8_addPrints9 (σ := σa5) (c := (fun k j => zia σ (B k) j)) hk5a hC5a (by omega) (by omega)) fun ro σx6 hh6 => ?_)
    obtain ⟨er6, es6⟩ := hh6
    subst er6
    subst es6
    refine ⟨rfl, ?_⟩
    show zF G mX2_readPrints (d + 6) 92 [(3, zI (tNumV t L 0 9 (tNumS t L 0 ((D 0) - 1) (tNumS t L 0 (D 2 - 1) s)))), (2, zI (tNumV t L 0 ((D 0) - 1) (tNumS t L 0 (D 2 - 1) s))), (1, zI (tNumV t L 0 ((D 2) - 1) s)), (0, zR (B 30))] [] (zsi σa5 (B 2205) ((tNumV t L 0 ((D 2) - 1) s) * 5 + (tNumV t L 0 ((D 0) - 1) (tNumS t L 0 (D 2 - 1) s)) + 1) ((zia σ (B 2205) ((tNumV t L 0 ((D 2) - 1) s) * 5 + (tNumV t L 0 ((D 0) - 1) (tNumS t L 0 (D 2 - 1) s)) + 1)) + ((tNumV t L 0 9 (tNumS t L 0 ((D 0) - 1) (tNumS t L 0 (D 2 - 1) s))) - (zia σ (B 2205) ((tNumV t L 0 ((D 2) - 1) s) * 5 + (tNumV t L 0 ((D 0) - 1) (tNumS t L 0 (D 2 - 1) s)) + 1))))) _
    exact zF_return dX2_readPrints_92 rfl ((by
    have e3 : (if tWd t L (zsbi 5) (tNumS t L 0 (D 2 - 1) s) then tAdv t L (tNumS t L 0 (D 2 - 1) s) else tNumS t L 0 (D 0 - 1) (tNumS t L 0 (D 2 - 1) s)) = (tNumS t L 0 ((D 0) - 1) (tNumS t L 0 (D 2 - 1) s)) := if_neg (by assumption)
    have e4 : (if tWd t L (zsbi 5) (tNumS t L 0 (D 2 - 1) s) then (-1 : Int) else tNumV t L 0 (D 0 - 1) (tNumS t L 0 (D 2 - 1) s)) = (tNumV t L 0 (D 0 - 1) (tNumS t L 0 (D 2 - 1) s)) := if_neg (by assumption)
    have e : ldPr t L s D = (tNumS t L 0 9 (tNumS t L 0 ((D 0) - 1) (tNumS t L 0 (D 2 - 1) s)), mSet D (154 + ((tNumV t L 0 (D 2 - 1) s) * 5 + (tNumV t L 0 (D 0 - 1) (tNumS t L 0 (D 2 - 1) s)) + 1)) (tNumV t L 0 9 (tNumS t L 0 ((D 0) - 1) (tNumS t L 0 (D 2 - 1) s)))) := by
      unfold ldPr; dsimp only; rw [e3, e4, show 154 + 5 * (tNumV t L 0 (D 2 - 1) s) + (tNumV t L 0 (D 0 - 1) (tNumS t L 0 (D 2 - 1) s)) + 1 = 154 + ((tNumV t L 0 (D 2 - 1) s) * 5 + (tNumV t L 0 (D 0 - 1) (tNumS t L 0 (D 2 - 1) s)) + 1) by omega]
    rw [e]
    exact ⟨rfl, (zFr_si (Or.inr ⟨2205, by decide, by decide, rfl⟩) (((((PTk_l fr1).tr (PTk_l fr2)).tr (PTk_l fr3)).tr (PTk_l fr4)).tr (PTk_l fr5))), (cTs_si (σ := σa5) (k0 := 2205) hk5a (by decide) hs5a), fun _ => cDm_of (cD_print hd hv (by omega) (by omega)) (CC_to (CC_si (σ := σa5) (k0 := 2205) hk5a hC5a) (congrArg (zup (fun k j => zia σ (B k) j) 2205 ((tNumV t L 0 ((D 2) - 1) s) * 5 + (tNumV t L 0 ((D 0) - 1) (tNumS t L 0 (D 2 - 1) s)) + 1)) (show (zia σ (B 2205) ((tNumV t L 0 ((D 2) - 1) s) * 5 + (tNumV t L 0 ((D 0) - 1) (tNumS t L 0 (D 2 - 1) s)) + 1)) + ((tNumV t L 0 9 (tNumS t L 0 ((D 0) - 1) (tNumS t L 0 (D 2 - 1) s))) - (zia σ (B 2205) ((tNumV t L 0 ((D 2) - 1) s) * 5 + (tNumV t L 0 ((D 0) - 1) (tNumS t L 0 (D 2 - 1) s)) + 1))) = (tNumV t L 0 9 (tNumS t L 0 ((D 0) - 1) (tNumS t L 0 (D 2 - 1) s))) by omega)))⟩))
  · have hqd : cTs σa2 B t L (tAdv t L (tNumS t L 0 (D 2 - 1) s)) := cTs_to hs2a (if_pos (by assumption))
    refine zF_iconst 31 dX2_readPrints_30 rfl ?_
    refine zF_goto 51 dX2_readPrints_31 rfl ?_
    refine zF_istore_n 52 (ls' := [(2, zI (-1)), (1, zI (tNumV t L 0 ((D 2) - 1) s)), (0, zR (B 30))]) dX2_readPrints_51 rfl (by decide) rfl ?_
    refine zF_aload_n 53 dX2_readPrints_52 rfl rfl ?_
    refine zF_getR 56 dX2_readPrints_53 rfl gX2_25 hk2a.1 hk2a.2.1 hk2a.2.2.1 ?_
    refine zF_iconst 57 dX2_readPrints_56 rfl ?_
    refine zF_bipush 59 dX2_readPrints_57 rfl (by decide) ?_
    refine zF_callV 62 (d2 := (d + 5)) (as := [zI 0, zI 9]) dX2_readPrints_59 rfl kX2_91 iX9_takeNumber (ci := 9) rfl eX9_takeNumber (Nat.le_refl _) hT2a.1 hT2a.2.1 rfl rfl (Nat.le_of_ble_eq_true rfl) (zE.mono (zt_X9_takeNumber (σ := σa2) hT2a hqd (by first | decide | assumption | exact hv.b _ | (constructor <;> omega)) (by first | decide | assumption | exact hv.b _ | (constructor <;> omega))) fun ro σa7 hh7 => ?_)
    obtain ⟨er7, fr7, p7⟩ := hh7
    subst er7
    refine ⟨fr7.1, ?_⟩
    show zF G mX2_readPrints (d + 6) 62 [(2, zI (-1)), (1, zI (tNumV t L 0 ((D 2) - 1) s)), (0, zR (B 30))] [zI (tNumV t L 0 9 (tAdv t L (tNumS t L 0 (D 2 - 1) s)))] σa7 _
    have hk7a := cCt_fr (σ := σa2) hk2a fr7
    have hT7a := cTk_ad (σ := σa2) hT2a fr7
    have hs7a : cTs σa7 B t L (tNumS t L 0 9 (tAdv t L (tNumS t L 0 (D 2 - 1) s))) := p7
    have hC7a : CC σa7 B (fun k j => zia σ (B k) j) := CC_tk (σ := σa2) hk2a fr7 hC2a
    have eb7 := hs7a.2.2.2.2.2.2.2.2
    have nl7 := tNumV_l (t := t) (L := L) (s := (tAdv t L (tNumS t L 0 (D 2 - 1) s))) (lo := 0) (hi := 9)
    have nu7 := tNumV_u (t := t) (L := L) (s := (tAdv t L (tNumS t L 0 (D 2 - 1) s))) (lo := 0) (hi := 9)
    refine zF_istore_n 63 (ls' := [(3, zI (tNumV t L 0 9 (tAdv t L (tNumS t L 0 (D 2 - 1) s)))), (2, zI (-1)), (1, zI (tNumV t L 0 ((D 2) - 1) s)), (0, zR (B 30))]) dX2_readPrints_62 rfl (by decide) rfl ?_
    refine zF_aload_n 64 dX2_readPrints_63 rfl rfl ?_
    refine zF_getR 67 dX2_readPrints_64 rfl gX2_25 hk7a.1 hk7a.2.1 hk7a.2.2.1 ?_
    refine zF_bipush 69 dX2_readPrints_67 rfl (by decide) ?_
    refine zF_callV 72 (d2 := (d + 5)) (as := [zI 59]) dX2_readPrints_69 rfl kX2_101 iX9_takeSign (ci := 9) rfl eX9_takeSign (Nat.le_refl _) hT7a.1 hT7a.2.1 rfl rfl (Nat.le_of_ble_eq_true rfl) (zE.mono (zt_X9_takeSign (σ := σa7) hT7a hs7a (by decide)) fun ro σa8 hh8 => ?_)
    obtain ⟨er8, fr8, p8⟩ := hh8
    subst er8
    refine ⟨fr8.1, ?_⟩
    show zF G mX2_readPrints (d + 6) 72 [(3, zI (tNumV t L 0 9 (tAdv t L (tNumS t L 0 (D 2 - 1) s)))), (2, zI (-1)), (1, zI (tNumV t L 0 ((D 2) - 1) s)), (0, zR (B 30))] [] σa8 _
    have hk8a := cCt_fr (σ := σa7) hk7a fr8
    have hT8a := cTk_ad (σ := σa7) hT7a fr8
    have hs8a : cTs σa8 B t L (tSgS t L 59 (tNumS t L 0 9 (tAdv t L (tNumS t L 0 (D 2 - 1) s)))) := p8
    have hC8a : CC σa8 B (fun k j => zia σ (B k) j) := CC_tk (σ := σa7) hk7a fr8 hC7a
    have eb8 := hs8a.2.2.2.2.2.2.2.2
    refine zF_aload_n 73 dX2_readPrints_72 rfl rfl ?_
    refine zF_getR 76 dX2_readPrints_73 rfl gX2_21 hk8a.1 hk8a.2.1 hk8a.2.2.2.2.1 ?_
    refine zF_iload_n 77 dX2_readPrints_76 rfl rfl ?_
    refine zF_iload_n 78 dX2_readPrints_77 rfl rfl ?_
    refine zF_iload_n 79 dX2_readPrints_78 rfl rfl ?_
    refine zF_aload_n 80 dX2_readPrints_79 rfl rfl ?_
    refine zF_getR 83 dX2_readPrints_80 rfl gX2_21 hk8a.1 hk8a.2.1 hk8a.2.2.2.2.1 ?_
    refine zF_iload_n 84 dX2_readPrints_83 rfl rfl ?_
    refine zF_iload_n 85 dX2_readPrints_84 rfl rfl ?_
    refine zF_callVi 88 (d2 := (d + 5)) (as := [zI (tNumV t L 0 ((D 2) - 1) s), zI (-1)]) dX2_readPrints_85 rfl kX2_152 iX8_printsAt (ci := 8) rfl eX8_printsAt (Nat.le_refl _) hk8a.st.1 hk8a.st.2.1 rfl rfl (Nat.le_of_ble_eq_true rfl) (zt_X8_printsAt9 (σ := σa8) (c := (fun k j => zia σ (B k) j)) hk8a hC8a (by omega) (by omega)) ?_
    refine zF_isub 89 dX2_readPrints_88 rfl ?_
    refine zF_callV 92 (d2 := (d + 5)) (as := [zI (tNumV t L 0 ((D 2) - 1) s), zI (-1), zI ((tNumV t L 0 9 (tAdv t L (tNumS t L 0 (D 2 - 1) s))) - (zia σ (B 2205) ((tNumV t L 0 ((D 2) - 1) s) * 5 + (-1) + 1)))]) dX2_readPrints_89 rfl kX2_155 iX8_addPrints (ci := 8) rfl eX8_addPrints (Nat.le_refl _) hk8a.st.1 hk8a.st.2.1 rfl rfl (Nat.le_of_ble_eq_true rfl) (zE.mono (zt_X8_addPrints9 (σ := σa8) (c := (fun k j => zia σ (B k) j)) hk8a hC8a (by omega) (by omega)) fun ro σx9 hh9 => ?_)
    obtain ⟨er9, es9⟩ := hh9
    subst er9
    subst es9
    refine ⟨rfl, ?_⟩
    show zF G mX2_readPrints (d + 6) 92 [(3, zI (tNumV t L 0 9 (tAdv t L (tNumS t L 0 (D 2 - 1) s)))), (2, zI (-1)), (1, zI (tNumV t L 0 ((D 2) - 1) s)), (0, zR (B 30))] [] (zsi σa8 (B 2205) ((tNumV t L 0 ((D 2) - 1) s) * 5 + (-1) + 1) ((zia σ (B 2205) ((tNumV t L 0 ((D 2) - 1) s) * 5 + (-1) + 1)) + ((tNumV t L 0 9 (tAdv t L (tNumS t L 0 (D 2 - 1) s))) - (zia σ (B 2205) ((tNumV t L 0 ((D 2) - 1) s) * 5 + (-1) + 1))))) _
    exact zF_return dX2_readPrints_92 rfl ((by
    have e3 : (if tWd t L (zsbi 5) (tNumS t L 0 (D 2 - 1) s) then tAdv t L (tNumS t L 0 (D 2 - 1) s) else tNumS t L 0 (D 0 - 1) (tNumS t L 0 (D 2 - 1) s)) = (tAdv t L (tNumS t L 0 (D 2 - 1) s)) := if_pos (by assumption)
    have e4 : (if tWd t L (zsbi 5) (tNumS t L 0 (D 2 - 1) s) then (-1 : Int) else tNumV t L 0 (D 0 - 1) (tNumS t L 0 (D 2 - 1) s)) = (-1) := if_pos (by assumption)
    have e : ldPr t L s D = (tNumS t L 0 9 (tAdv t L (tNumS t L 0 (D 2 - 1) s)), mSet D (154 + ((tNumV t L 0 (D 2 - 1) s) * 5 + (-1) + 1)) (tNumV t L 0 9 (tAdv t L (tNumS t L 0 (D 2 - 1) s)))) := by
      unfold ldPr; dsimp only; rw [e3, e4, show 154 + 5 * (tNumV t L 0 (D 2 - 1) s) + (-1) + 1 = 154 + ((tNumV t L 0 (D 2 - 1) s) * 5 + (-1) + 1) by omega]
    rw [e]
    exact ⟨rfl, (zFr_si (Or.inr ⟨2205, by decide, by decide, rfl⟩) ((((PTk_l fr1).tr (PTk_l fr2)).tr (PTk_l fr7)).tr (PTk_l fr8))), (cTs_si (σ := σa8) (k0 := 2205) hk8a (by decide) hs8a), fun _ => cDm_of (cD_print hd hv (by omega) (by omega)) (CC_to (CC_si (σ := σa8) (k0 := 2205) hk8a hC8a) (congrArg (zup (fun k j => zia σ (B k) j) 2205 ((tNumV t L 0 ((D 2) - 1) s) * 5 + (-1) + 1)) (show (zia σ (B 2205) ((tNumV t L 0 ((D 2) - 1) s) * 5 + (-1) + 1)) + ((tNumV t L 0 9 (tAdv t L (tNumS t L 0 (D 2 - 1) s))) - (zia σ (B 2205) ((tNumV t L 0 ((D 2) - 1) s) * 5 + (-1) + 1))) = (tNumV t L 0 9 (tAdv t L (tNumS t L 0 (D 2 - 1) s))) by omega)))⟩))
theorem zt_X2_readClause  (hG : zOS G) (hk : cCt σ B) (hT : cTk σ B t L) (hs : cTs σ B t L s) (hd : cDm D σ B) (hv : ldV D) (h0 : s.2 = 0) : zE G mX2_readClause (d + 7) [zR (B 30)] σ (fun ro σ1 => ro = .inl none ∧ zFr (PLd B) σ σ1 ∧ cTs σ1 B t L (ldC t L (s, D)).1 ∧ ((ldC t L (s, D)).1.2 = 0 → cDm (ldC t L (s, D)).2 σ1 B)) := by
  refine zE_of rfl (by simp [zcat]) (Nat.le_of_ble_eq_true rfl) ?_
  show zF G mX2_readClause (d + 7) 0 [(0, zR (B 30))] [] σ _
  have hn := hv.n
  have hL7 : L ≤ 700 := hT.2.2.2.2.2.2.1
  have hC : CC σ B (fun k j => zia σ (B k) j) := fun _ _ _ _ => rfl
  have es := hs.2.2.2.2.2.2.2.2
  refine zF_aload_n 1 dX2_readClause_0 rfl rfl ?_
  refine zF_getR 4 dX2_readClause_1 rfl gX2_25 hk.1 hk.2.1 hk.2.2.1 ?_
  refine zF_ldcS 6 (i := 1) dX2_readClause_4 rfl rfl ?_
  refine zF_callVi 9 (d2 := (d + 6)) (as := [zR (zbg + 1)]) dX2_readClause_6 rfl kX2_48 iX9_isWord (ci := 9) rfl eX9_isWord (Nat.le_refl _) hT.1 hT.2.1 rfl rfl (Nat.le_of_ble_eq_true rfl) (zt_X9_isWord (σ := σ) hT hs hG (by decide)) ?_
  refine zF_ifb_eq 19 12 dX2_readClause_9 rfl rfl (fun c1 => ?_) (fun c1 => ?_)
  · refine zF_aload_n 20 dX2_readClause_19 rfl rfl ?_
    refine zF_getR 23 dX2_readClause_20 rfl gX2_25 hk.1 hk.2.1 hk.2.2.1 ?_
    refine zF_ldcS 25 (i := 2) dX2_readClause_23 rfl rfl ?_
    refine zF_callVi 28 (d2 := (d + 6)) (as := [zR (zbg + 2)]) dX2_readClause_25 rfl kX2_48 iX9_isWord (ci := 9) rfl eX9_isWord (Nat.le_refl _) hT.1 hT.2.1 rfl rfl (Nat.le_of_ble_eq_true rfl) (zt_X9_isWord (σ := σ) hT hs hG (by decide)) ?_
    refine zF_ifb_eq 38 31 dX2_readClause_28 rfl rfl (fun c2 => ?_) (fun c2 => ?_)
    · refine zF_aload_n 39 dX2_readClause_38 rfl rfl ?_
      refine zF_getR 42 dX2_readClause_39 rfl gX2_25 hk.1 hk.2.1 hk.2.2.1 ?_
      refine zF_ldcS 44 (i := 3) dX2_readClause_42 rfl rfl ?_
      refine zF_callVi 47 (d2 := (d + 6)) (as := [zR (zbg + 3)]) dX2_readClause_44 rfl kX2_48 iX9_isWord (ci := 9) rfl eX9_isWord (Nat.le_refl _) hT.1 hT.2.1 rfl rfl (Nat.le_of_ble_eq_true rfl) (zt_X9_isWord (σ := σ) hT hs hG (by decide)) ?_
      refine zF_ifb_eq 57 50 dX2_readClause_47 rfl rfl (fun c3 => ?_) (fun c3 => ?_)
      · refine zF_aload_n 58 dX2_readClause_57 rfl rfl ?_
        refine zF_getR 61 dX2_readClause_58 rfl gX2_25 hk.1 hk.2.1 hk.2.2.1 ?_
        refine zF_ldcS 63 (i := 4) dX2_readClause_61 rfl rfl ?_
        refine zF_callV 66 (d2 := (d + 6)) (as := [zR (zbg + 4)]) dX2_readClause_63 rfl kX2_67 iX9_takeWord (ci := 9) rfl eX9_takeWord (Nat.le_refl _) hT.1 hT.2.1 rfl rfl (Nat.le_of_ble_eq_true rfl) (zE.mono (zt_X9_takeWord (σ := σ) hT hs hG (by decide)) fun ro σa1 hh1 => ?_)
        obtain ⟨er1, fr1, p1⟩ := hh1
        subst er1
        refine ⟨fr1.1, ?_⟩
        show zF G mX2_readClause (d + 7) 66 [(0, zR (B 30))] [zI (zb (tWd t L (zsbi 4) s))] σa1 _
        have hk1a := cCt_fr (σ := σ) hk fr1
        have hT1a := cTk_ad (σ := σ) hT fr1
        have hs1a : cTs σa1 B t L (if tWd t L (zsbi 4) s then tAdv t L s else s) := p1
        have hC1a : CC σa1 B (fun k j => zia σ (B k) j) := CC_tk (σ := σ) hk fr1 hC
        have eb1 := hs1a.2.2.2.2.2.2.2.2
        refine zF_ifb_eq 76 69 dX2_readClause_66 rfl rfl (fun c4 => ?_) (fun c4 => ?_)
        · have hqq : cTs σa1 B t L s := cTs_to hs1a (if_neg (by assumption))
          refine zF_aload_n 77 dX2_readClause_76 rfl rfl ?_
          refine zF_getR 80 dX2_readClause_77 rfl gX2_25 hk1a.1 hk1a.2.1 hk1a.2.2.1 ?_
          refine zF_ldcS 82 (i := 6) dX2_readClause_80 rfl rfl ?_
          refine zF_callV 85 (d2 := (d + 6)) (as := [zR (zbg + 6)]) dX2_readClause_82 rfl kX2_67 iX9_takeWord (ci := 9) rfl eX9_takeWord (Nat.le_refl _) hT1a.1 hT1a.2.1 rfl rfl (Nat.le_of_ble_eq_true rfl) (zE.mono (zt_X9_takeWord (σ := σa1) hT1a hqq hG (by decide)) fun ro σa2 hh2 => ?_)
          obtain ⟨er2, fr2, p2⟩ := hh2
          subst er2
          refine ⟨fr2.1, ?_⟩
          show zF G mX2_readClause (d + 7) 85 [(0, zR (B 30))] [zI (zb (tWd t L (zsbi 6) s))] σa2 _
          have hk2a := cCt_fr (σ := σa1) hk1a fr2
          have hT2a := cTk_ad (σ := σa1) hT1a fr2
          have hs2a : cTs σa2 B t L (if tWd t L (zsbi 6) s then tAdv t L s else s) := p2
          have hC2a : CC σa2 B (fun k j => zia σ (B k) j) := CC_tk (σ := σa1) hk1a fr2 hC1a
          have eb2 := hs2a.2.2.2.2.2.2.2.2
          refine zF_ifb_eq 95 88 dX2_readClause_85 rfl rfl (fun c5 => ?_) (fun c5 => ?_)
          · have hqu : cTs σa2 B t L s := cTs_to hs2a (if_neg (by assumption))
            refine zF_aload_n 96 dX2_readClause_95 rfl rfl ?_
            refine zF_getR 99 dX2_readClause_96 rfl gX2_25 hk2a.1 hk2a.2.1 hk2a.2.2.1 ?_
            refine zF_iconst 100 dX2_readClause_99 rfl ?_
            refine zF_callV 103 (d2 := (d + 6)) (as := [zI 1]) dX2_readClause_100 rfl kX2_78 iX9_fail (ci := 9) rfl eX9_fail (Nat.le_refl _) hT2a.1 hT2a.2.1 rfl rfl (Nat.le_of_ble_eq_true rfl) (zE.mono (zt_X9_fail (σ := σa2) (c := 1) hT2a hqu (by decide) (by decide)) fun ro σa3 hh3 => ?_)
            obtain ⟨er3, fr3, p3⟩ := hh3
            subst er3
            refine ⟨fr3.1, ?_⟩
            show zF G mX2_readClause (d + 7) 103 [(0, zR (B 30))] [] σa3 _
            have hk3a := cCt_fr (σ := σa2) hk2a fr3
            have hT3a := cTk_ad (σ := σa2) hT2a fr3
            have hs3a : cTs σa3 B t L (tFail 1 s) := p3
            have hC3a : CC σa3 B (fun k j => zia σ (B k) j) := CC_tk (σ := σa2) hk2a fr3 hC2a
            have eb3 := hs3a.2.2.2.2.2.2.2.2
            exact zF_return dX2_readClause_103 rfl ((by
    have ew : tWdS t L (zsbi 6) s = tFail 1 s := if_neg (by assumption)
    have eb : ldB t L (s, D) = ldFee t L (s, D) := (if_neg (by assumption)).trans ((if_neg (by assumption)).trans ((if_neg (by assumption)).trans (if_neg (by assumption))))
    have e1 : (ldC t L (s, D)).1 = tFail 1 s := by
      show tSgS t L 59 (ldB t L (s, D)).1 = _
      rw [eb]
      show tSgS t L 59 (tNumS t L 0 999 (tWdS t L (zsbi 6) s)) = _
      rw [ew, tNumS_e (tFail_2 (by decide)), tSgS_e (tFail_2 (by decide))]
    rw [e1]
    exact ⟨rfl, (((PTk_l fr1).tr (PTk_l fr2)).tr (PTk_l fr3)), hs3a, fun z => absurd z (tFail_2 (by decide))⟩))
          · have hqr : cTs σa2 B t L (tAdv t L s) := cTs_to hs2a (if_pos (by assumption))
            refine zF_aload_n 89 dX2_readClause_88 rfl rfl ?_
            refine zF_callV 92 (d2 := (d + 6)) (as := []) dX2_readClause_89 rfl kX2_75 iX2_readFee (ci := 2) rfl eX2_readFee (Nat.le_refl _) hk2a.1 hk2a.2.1 rfl rfl (Nat.le_of_ble_eq_true rfl) (zE.mono (zt_X2_readFee (σ := σa2) hG hk2a hT2a hqr (cDm_of hd hC2a) hv) fun ro σa4 hh4 => ?_)
            obtain ⟨er4, fr4, p4⟩ := hh4
            subst er4
            refine ⟨fr4.1, ?_⟩
            show zF G mX2_readClause (d + 7) 92 [(0, zR (B 30))] [] σa4 _
            refine zF_goto 103 dX2_readClause_92 rfl ?_
            exact zF_return dX2_readClause_103 rfl ((by
    have eb : ldB t L (s, D) = (tNumS t L 0 999 (tAdv t L s), mSet D 4 (tNumV t L 0 999 (tAdv t L s))) := (if_neg (by assumption)).trans ((if_neg (by assumption)).trans ((if_neg (by assumption)).trans ((if_neg (by assumption)).trans (by show ldFee t L (s, D) = _; unfold ldFee tWdS; dsimp only; rw [if_pos (by assumption)]))))
    have e : ldC t L (s, D) = (tSgS t L 59 (tNumS t L 0 999 (tAdv t L s), mSet D 4 (tNumV t L 0 999 (tAdv t L s))).1, (tNumS t L 0 999 (tAdv t L s), mSet D 4 (tNumV t L 0 999 (tAdv t L s))).2) := congrArg (fun q => (tSgS t L 59 q.1, q.2)) eb
    rw [e]
    exact ⟨rfl, (((PTk_l fr1).tr (PTk_l fr2)).tr fr4), p4.1, p4.2⟩))
        · have hqp : cTs σa1 B t L (tAdv t L s) := cTs_to hs1a (if_pos (by assumption))
          refine zF_aload_n 70 dX2_readClause_69 rfl rfl ?_
          refine zF_callV 73 (d2 := (d + 6)) (as := []) dX2_readClause_70 rfl kX2_70 iX2_readPrints (ci := 2) rfl eX2_readPrints (Nat.le_refl _) hk1a.1 hk1a.2.1 rfl rfl (Nat.le_of_ble_eq_true rfl) (zE.mono (zt_X2_readPrints (σ := σa1) hG hk1a hT1a hqp (cDm_of hd hC1a) hv) fun ro σa5 hh5 => ?_)
          obtain ⟨er5, fr5, p5⟩ := hh5
          subst er5
          refine ⟨fr5.1, ?_⟩
          show zF G mX2_readClause (d + 7) 73 [(0, zR (B 30))] [] σa5 _
          refine zF_goto 103 dX2_readClause_73 rfl ?_
          exact zF_return dX2_readClause_103 rfl ((by
    have eb : ldB t L (s, D) = (ldPr t L (tAdv t L s) D) := (if_neg (by assumption)).trans ((if_neg (by assumption)).trans ((if_neg (by assumption)).trans (if_pos (by assumption))))
    have e : ldC t L (s, D) = (tSgS t L 59 (ldPr t L (tAdv t L s) D).1, (ldPr t L (tAdv t L s) D).2) := congrArg (fun q => (tSgS t L 59 q.1, q.2)) eb
    rw [e]
    exact ⟨rfl, ((PTk_l fr1).tr fr5), p5.1, p5.2⟩))
      · refine zF_aload_n 51 dX2_readClause_50 rfl rfl ?_
        refine zF_callV 54 (d2 := (d + 6)) (as := []) dX2_readClause_51 rfl kX2_62 iX2_readFilm (ci := 2) rfl eX2_readFilm (Nat.le_refl _) hk.1 hk.2.1 rfl rfl (Nat.le_of_ble_eq_true rfl) (zE.mono (zt_X2_readFilm (σ := σ) hG hk hT hs hd hv h0) fun ro σa6 hh6 => ?_)
        obtain ⟨er6, fr6, p6⟩ := hh6
        subst er6
        refine ⟨fr6.1, ?_⟩
        show zF G mX2_readClause (d + 7) 54 [(0, zR (B 30))] [] σa6 _
        refine zF_goto 103 dX2_readClause_54 rfl ?_
        exact zF_return dX2_readClause_103 rfl ((by
    have eb : ldB t L (s, D) = (ldFilm t L (s, D)) := (if_neg (by assumption)).trans ((if_neg (by assumption)).trans (if_pos (by assumption)))
    have e : ldC t L (s, D) = (tSgS t L 59 (ldFilm t L (s, D)).1, (ldFilm t L (s, D)).2) := congrArg (fun q => (tSgS t L 59 q.1, q.2)) eb
    rw [e]
    exact ⟨rfl, fr6, p6.1, p6.2⟩))
    · refine zF_aload_n 32 dX2_readClause_31 rfl rfl ?_
      refine zF_callV 35 (d2 := (d + 6)) (as := []) dX2_readClause_32 rfl kX2_57 iX2_readScreen (ci := 2) rfl eX2_readScreen (Nat.le_refl _) hk.1 hk.2.1 rfl rfl (Nat.le_of_ble_eq_true rfl) (zE.mono (zt_X2_readScreen (σ := σ) hG hk hT hs hd hv h0) fun ro σa7 hh7 => ?_)
      obtain ⟨er7, fr7, p7⟩ := hh7
      subst er7
      refine ⟨fr7.1, ?_⟩
      show zF G mX2_readClause (d + 7) 35 [(0, zR (B 30))] [] σa7 _
      refine zF_goto 103 dX2_readClause_35 rfl ?_
      exact zF_return dX2_readClause_103 rfl ((by
    have eb : ldB t L (s, D) = (ldScreen t L (s, D)) := (if_neg (by assumption)).trans (if_pos (by assumption))
    have e : ldC t L (s, D) = (tSgS t L 59 (ldScreen t L (s, D)).1, (ldScreen t L (s, D)).2) := congrArg (fun q => (tSgS t L 59 q.1, q.2)) eb
    rw [e]
    exact ⟨rfl, fr7, p7.1, p7.2⟩))
  · refine zF_aload_n 13 dX2_readClause_12 rfl rfl ?_
    refine zF_callV 16 (d2 := (d + 6)) (as := []) dX2_readClause_13 rfl kX2_52 iX2_readHouse (ci := 2) rfl eX2_readHouse (Nat.le_refl _) hk.1 hk.2.1 rfl rfl (Nat.le_of_ble_eq_true rfl) (zE.mono (zt_X2_readHouse (σ := σ) hG hk hT hs hd hv h0) fun ro σa8 hh8 => ?_)
    obtain ⟨er8, fr8, p8⟩ := hh8
    subst er8
    refine ⟨fr8.1, ?_⟩
    show zF G mX2_readClause (d + 7) 16 [(0, zR (B 30))] [] σa8 _
    refine zF_goto 103 dX2_readClause_16 rfl ?_
    exact zF_return dX2_readClause_103 rfl ((by
    have eb : ldB t L (s, D) = (ldHouse t L (s, D)) := if_pos (by assumption)
    have e : ldC t L (s, D) = (tSgS t L 59 (ldHouse t L (s, D)).1, (ldHouse t L (s, D)).2) := congrArg (fun q => (tSgS t L 59 q.1, q.2)) eb
    rw [e]
    exact ⟨rfl, fr8, p8.1, p8.2⟩))
end ZCL

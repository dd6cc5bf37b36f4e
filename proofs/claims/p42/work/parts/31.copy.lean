/-! copies of rows -/
section ZC5
variable {G : zG} {M : zMeth} {d pc : Nat} {ls : List (Nat × zV)} {st : List zV} {σ : zMem} {Q : zRes → zMem → Prop}
def zcpm (σ : zMem) (t : Nat) (n : Int) (f : Int → Int) : zMem := (σ.1, σ.2.1, fun h j => if h = t ∧ 0 ≤ j ∧ j < n then f j else σ.2.2.1 h j, σ.2.2.2)
theorem zia_cp (σ : zMem) (t : Nat) (n : Int) (f : Int → Int) (h : Nat) (j : Int) : zia (zcpm σ t n f) h j = if h = t ∧ 0 ≤ j ∧ j < n then f j else zia σ h j := rfl
theorem zacl : Cond.methodLink RX11 410 arraycopyName ∈ lw_all ∧ Cond.native arraycopyName ∈ lw_all ∧ Cond.static arraycopyName ∈ lw_all ∧ Cond.initialized "java/lang/System" ∈ lw_all := ⟨zi3 230 rfl rfl, zi3 232 rfl rfl, zi3 231 rfl rfl, zi1 23 rfl rfl⟩
theorem zcp_set {ρ : Nat → Nat} {f t n nt : Nat} (hk : zkd σ t = (1, nt)) : (zws G ρ σ).set t (ρ t, .inl (G.2.2.1 1, nt, .inl (va_cpy (fun j : Nat => Int32.ofInt (zia σ f j)) (fun j : Nat => Int32.ofInt (zia σ t j)) 0 0 n))) = zws G ρ (zcpm σ t n (zia σ f)) := by
  refine zws_set rfl (fun i hi => zcell_congr rfl (fun j => ?_) (fun j => rfl)) ?_
  · rw [zia_cp, if_neg (fun q => hi q.1)]
  · rw [zcell_1 (σ := zcpm σ t n (zia σ f)) hk]
    refine congrArg (fun g => (Sum.inl (G.2.2.1 1, nt, Sum.inl g) : va_E)) (funext fun j => ?_)
    rw [zia_cp]
    unfold va_cpy
    by_cases c : j < n
    · rw [if_pos ⟨rfl, by omega, by omega⟩, if_pos ⟨Nat.zero_le _, by omega⟩, Nat.zero_add, Nat.sub_zero]
    · rw [if_neg (fun q => c (by omega)), if_neg (fun q => c (by omega))]
theorem zF_acopy (pc' : Nat) {f t nf nt n : Nat} (hd : decode M.2.1 pc = .ok (.invokestatic 410, 3)) (hp : pc + 3 = pc') (hy : M.1.cls = RX11) (hkf : zkd σ f = (1, nf)) (hf : f < zn σ) (hkt : zkd σ t = (1, nt)) (ht : t < zn σ) (h1 : n ≤ nf) (h2 : n ≤ nt) (hsm : n < 1000000) (hdd : 1 ≤ d) (hcat : (st.map zcat).sum ≤ 8)
    (kk : zF G M d pc' ls st (zcpm σ t n (zia σ f)) Q) : zF G M d pc ls (zI n :: zI 0 :: zR t :: zI 0 :: zR f :: st) σ Q := by
  subst hp
  refine zF_step (σ1 := zcpm σ t n (zia σ f)) rfl rfl rfl ?_ kk
  intro ρ p e R s m args below meth c0 hC H locs cells slots lsA Qm hS hR1 hR2 kk
  have hb : nf < 2147483648 := by have := hS.1.2.2.1.2.2 f; rw [hkf] at this; exact this
  have hts := hC.2.2.2.2.1
  have hfr : R.frames = d := hC.2.2.2.2.2.2.2.2.2.1
  have hlo : R.locals = 37 * d := hC.2.2.2.2.2.2.2.2.2.2.1
  simp only [List.map_cons, ztr, Option.map, va_rf]
  have e0 : (Int32.ofInt 0).toNatClampNeg = 0 := by decide
  have en : (Int32.ofInt (n : Int)).toNatClampNeg = n := by rw [zcl0 (n : Int) (by omega) (by omega)]; rfl
  have n0 : ¬ Int32.ofInt 0 < 0 := by decide
  have nn : ¬ Int32.ofInt (n : Int) < 0 := fun q => (zin (z := (n : Int)) (n := n + 1) (by omega) (by omega) (by omega)) (Or.inl q)
  refine va_copyi (own := RX11) hC.1 hC.2.1 (hC.2.2.1.trans hS.2.2.1.symm) (by rw [← hy]; exact hC.2.2.2.1) (hts _ zacl.1) (hts _ zacl.2.1) (hts _ zacl.2.2.1) (hts _ zacl.2.2.2) (zcx_K hC) hS.1.1 hS.1.2.1 hS.2.1 f t 0 0 (by rw [zws_get hf, zcell_1 hkf]) (by rw [zws_get ht, zcell_1 hkt]) rfl rfl rfl n0 n0 nn (by rw [e0, en]; omega) (by rw [e0, en]; omega) (fun i _ => rfl) (by omega) ?_ hd fun H1 locs1 p1 p2 p3 => ?_
  · have : ((st.map (ztr ρ)).map fun v => v.category).sum ≤ 8 := by rw [zcat_sum]; exact hcat
    have e2 : nativeFrameWords "java/lang/System" "arraycopy" 5 = 7 := by decide
    rw [e2, hlo]
    omega
  · rw [e0, en, zcp_set hkt] at p1 p2
    exact kk H1 locs1 lsA ⟨⟨p1, p2, hS.1.2.2.1, hS.1.2.2.2⟩, p3, hS.2.2⟩
theorem zF_callSNv (pc' : Nat) {M2 : zMeth} {host : String} {d2 idx n : Nat} {stk as rest : List zV} (hd : decode M.2.1 pc = .ok (.invokestatic idx, 3)) (hp : pc + 3 = pc') (hcl : zCLN M.1.cls idx M2 n host) (hst : Cond.static M2.1 ∈ lw_all) (hdd : d2 + 1 ≤ d) (hn : as.length = n) (hs : stk = as.reverse ++ rest) (hcat : (rest.map zcat).sum ≤ 8)
    (k : zE G M2 d2 as σ (fun r σ1 => zn σ1 = zn σ ∧ r = .inl none ∧ zF G M d pc' ls rest σ1 Q)) : zF G M d pc ls stk σ Q := by
  subst hp
  exact zF_callSN0 (v := none) hd hcl hst hdd hn hs hcat (k.mono fun r σ1 h => ⟨zkeep h.1, h.2.1, h.2.2⟩)
theorem kX8_67n : zCLN RX8 67 mX11_copyRow 2 "CinemaChain" := ⟨zj3 237 rfl rfl, wX11_copyRow, zi1 1 rfl rfl, ⟨by decide, by decide, by decide +kernel⟩, by decide⟩
theorem kX1_52n : zCLN RX1 52 mX11_copyRow 2 "CinemaChain" := ⟨zj3 226 rfl rfl, wX11_copyRow, zi1 1 rfl rfl, ⟨by decide, by decide, by decide +kernel⟩, by decide⟩
theorem zFr_cp {P : Nat → Int → Prop} {σ' : zMem} {t : Nat} {n : Int} {f : Int → Int} (hp : ∀ j, P t j) (k : zFr P σ σ') : zFr P σ (zcpm σ' t n f) := ⟨k.1, k.2.1, k.2.2.1, k.2.2.2.1, k.2.2.2.2.1, fun x j' hx => by
  refine Eq.trans ?_ (k.2.2.2.2.2 x j' hx)
  rw [zia_cp]
  refine if_neg fun q => hx ?_
  rw [q.1]
  exact hp _⟩

theorem cCh_fr {P : Nat → Int → Prop} {σ2 : zMem} {B : Nat → Nat} {b : Nat} (h : cCh σ B b) (f : zFr P σ σ2) : cCh σ2 B b := by
  obtain ⟨f1, f2, f3, -⟩ := f
  unfold cCh at h ⊢
  rw [f1, f2, f3]
  exact h
theorem cSt_fr {P : Nat → Int → Prop} {σ2 : zMem} {B : Nat → Nat} {b : Nat} (h : cSt σ B b) (f : zFr P σ σ2) : cSt σ2 B b := by
  obtain ⟨f1, f2, f3, -⟩ := f
  unfold cSt at h ⊢
  rw [f1, f2, f3]
  exact h
/-- a block of the class's rows -/
def zBk (B : Nat → Nat) (b : Nat) (h : Nat) (_ : Int) : Prop := ∃ k, k ≤ 15 ∧ h = B (b + k)
/-- a copy of some of a block's rows -/
def zCpA (F : List (Nat × Nat)) (I : List Nat) (σ : zMem) (B : Nat → Nat) (b b' : Nat) (σ1 : zMem) : Prop :=
  zFr (zBk B b) σ σ1 ∧ (∀ k : Nat, k ∈ I → zia σ1 (B b) k = zia σ (B b') k) ∧ ∀ k n, (k, n) ∈ F → ∀ j, 0 ≤ j → j < (n : Int) → zia σ1 (B (b + k)) j = zia σ (B (b' + k)) j
theorem zCp_row {F : List (Nat × Nat)} {I : List Nat} {σ0 : zMem} {B : Nat → Nat} {b b' k n : Nat} (hi : ∀ i j, B i = B j → i = j) (hd : b + 16 ≤ b' ∨ b' + 16 ≤ b) (hk : k ≤ 15) (hk0 : k ≠ 0) (hF : ∀ q ∈ F, q.1 ≠ k ∧ q.1 ≤ 15) (h : zCpA F I σ0 B b b' σ) : zCpA ((k, n) :: F) I σ0 B b b' (zcpm σ (B (b + k)) n (zia σ (B (b' + k)))) := by
  obtain ⟨f, p, q⟩ := h
  refine ⟨zFr_cp (fun j => ⟨k, hk, rfl⟩) f, fun i hI => ?_, fun k2 n2 hm j j0 j1 => ?_⟩
  · rw [zia_cp, if_neg (fun z => by have := hi _ _ z.1; omega)]; exact p i hI
  · rw [zia_cp]
    rcases List.mem_cons.mp hm with e | e
    · cases e
      rw [if_pos ⟨rfl, j0, j1⟩]
      exact f.2.2.2.2.2 _ _ (fun ⟨k3, h3, h4⟩ => by have := hi _ _ h4; omega)
    · rw [if_neg (fun z => by have := hi _ _ z.1; have := (hF _ e).1; have e2 : k2 = k := by omega
                              exact this e2)]
      exact q k2 n2 e j j0 j1
theorem zCp_int {F : List (Nat × Nat)} {I : List Nat} {σ0 : zMem} {B : Nat → Nat} {b b' k : Nat} (hi : ∀ i j, B i = B j → i = j) (hd : b + 16 ≤ b' ∨ b' + 16 ≤ b) (hF : ∀ q ∈ F, q.1 ≠ 0) (h : zCpA F I σ0 B b b' σ) {v : Int} (hv : v = zia σ0 (B b') k) : zCpA F (k :: I) σ0 B b b' (zsi σ (B b) k v) := by
  obtain ⟨f, p, q⟩ := h
  refine ⟨zFr_si ⟨0, by omega, rfl⟩ f, fun i hI => ?_, fun k2 n2 hm j j0 j1 => ?_⟩
  · rw [zia_si]
    by_cases e : i = k
    · subst e; rw [if_pos ⟨rfl, rfl⟩, hv]
    · rw [if_neg (fun z => e (by have := z.2; omega))]
      exact p i ((List.mem_cons.mp hI).resolve_left e)
  · rw [zia_si, if_neg (fun z => by have := hi _ _ z.1; have := hF _ hm; have e2 : k2 = 0 := by omega
                                    exact this e2)]
    exact q k2 n2 hm j j0 j1
theorem zCp_src {F : List (Nat × Nat)} {I : List Nat} {σ0 : zMem} {B : Nat → Nat} {b b' : Nat} (hi : ∀ i j, B i = B j → i = j) (hd : b + 16 ≤ b' ∨ b' + 16 ≤ b) (h : zCpA F I σ0 B b b' σ) (j : Int) : zia σ (B b') j = zia σ0 (B b') j := h.1.2.2.2.2.2 _ _ (fun ⟨k3, h3, h4⟩ => by have := hi _ _ h4; omega)
theorem zt_X11_copyRow {f t n : Nat} (hf : zkd σ f = (1, n)) (hf1 : f < zn σ) (ht : zkd σ t = (1, n)) (ht1 : t < zn σ) (hn : n < 1000) : zE G mX11_copyRow (d + 1) [zR f, zR t] σ (fun ro σ1 => ro = .inl none ∧ σ1 = zcpm σ t n (zia σ f)) := by
  refine zE_of rfl (by simp [zcat]) (Nat.le_of_ble_eq_true rfl) ?_
  show zF G mX11_copyRow (d + 1) 0 [(0, zR f), (1, zR t)] [] σ _
  refine zF_aload_n 1 dX11_copyRow_0 rfl rfl ?_
  refine zF_iconst 2 dX11_copyRow_1 rfl ?_
  refine zF_aload_n 3 dX11_copyRow_2 rfl rfl ?_
  refine zF_iconst 4 dX11_copyRow_3 rfl ?_
  refine zF_aload_n 5 dX11_copyRow_4 rfl rfl ?_
  refine zF_alen 6 dX11_copyRow_5 rfl (by decide) hf hf1 ?_
  refine zF_aload_n 7 dX11_copyRow_6 rfl rfl ?_
  refine zF_alen 8 dX11_copyRow_7 rfl (by decide) ht ht1 ?_
  refine zF_min 11 dX11_copyRow_8 rfl kX11_405 (Nat.le_refl _) (by first | decide | (constructor <;> omega)) (by first | decide | (constructor <;> omega)) (Nat.le_of_ble_eq_true rfl) ?_
  rw [show min (n : Int) n = n by omega]
  refine zF_acopy 14 (n := n) dX11_copyRow_11 rfl rfl hf hf1 ht ht1 (Nat.le_refl _) (Nat.le_refl _) (by omega) (by omega) (Nat.le_of_ble_eq_true rfl) ?_
  exact zF_return dX11_copyRow_14 rfl ⟨rfl, rfl⟩
theorem zt_cpRow {F : List (Nat × Nat)} {I : List Nat} {σ0 : zMem} {B : Nat → Nat} {b b' k n : Nat} (hi : ∀ i j, B i = B j → i = j) (hd : b + 16 ≤ b' ∨ b' + 16 ≤ b) (hk : k ≤ 15) (hk0 : k ≠ 0) (hF : ∀ q ∈ F, q.1 ≠ k ∧ q.1 ≤ 15) (h : zCpA F I σ0 B b b' σ)
    (a1 : zkd σ (B (b' + k)) = (1, n)) (a2 : B (b' + k) < zn σ) (a3 : zkd σ (B (b + k)) = (1, n)) (a4 : B (b + k) < zn σ) (hn : n < 1000) : zE G mX11_copyRow (d + 1) [zR (B (b' + k)), zR (B (b + k))] σ (fun ro σ1 => ro = .inl none ∧ zn σ1 = zn σ ∧ zCpA ((k, n) :: F) I σ0 B b b' σ1) :=
  (zt_X11_copyRow a1 a2 a3 a4 hn).mono fun ro σ1 h1 => by
    obtain ⟨e1, e2⟩ := h1
    subst e2
    exact ⟨e1, rfl, zCp_row hi hd hk hk0 hF h⟩
theorem zt_X8_copyFrom {B : Nat → Nat} {b b' : Nat} (hi : ∀ i j, B i = B j → i = j) (hd : b + 16 ≤ b' ∨ b' + 16 ≤ b) (h1 : cSt σ B b) (h2 : cSt σ B b') : zE G mX8_copyFrom (d + 2) [zR (B b), zR (B b')] σ (fun ro σ1 => ro = .inl none ∧ zCpA [(15, 100), (14, 4), (13, 24), (12, 6), (11, 6), (10, 6), (9, 10), (8, 10), (7, 10), (6, 10), (5, 30), (4, 10), (3, 4)] [2, 1, 0] σ B b b' σ1) := by
  refine zE_of rfl (by simp [zcat]) (Nat.le_of_ble_eq_true rfl) ?_
  show zF G mX8_copyFrom (d + 2) 0 [(0, zR (B b)), (1, zR (B b'))] [] σ _
  have hcp0 : zCpA [] [] σ B b b' σ := ⟨zFr.rf, fun k h => (by cases h), fun k n h => (by cases h)⟩
  refine zF_aload_n 1 dX8_copyFrom_0 rfl rfl ?_
  refine zF_aload_n 2 dX8_copyFrom_1 rfl rfl ?_
  refine zF_getI 5 dX8_copyFrom_2 rfl gX8_51 (by decide) (by decide) (cSt_fr h2 hcp0.1).1 (cSt_fr h2 hcp0.1).2.1 rfl ?_
  refine zF_putI 8 dX8_copyFrom_5 rfl pX8_copyFrom_51 (Or.inl rfl) (cSt_fr h1 hcp0.1).1 (cSt_fr h1 hcp0.1).2.1 ?_
  have hcp1 : zCpA [] [0] σ B b b' (zsi σ (B b) ((0 : Nat) : Int) (zia σ (B b') 0)) := zCp_int hi hd (by decide) hcp0 (zCp_src hi hd hcp0 _)
  refine zF_aload_n 9 dX8_copyFrom_8 rfl rfl ?_
  refine zF_aload_n 10 dX8_copyFrom_9 rfl rfl ?_
  refine zF_getI 13 dX8_copyFrom_10 rfl gX8_55 (by decide) (by decide) (cSt_fr h2 hcp1.1).1 (cSt_fr h2 hcp1.1).2.1 rfl ?_
  refine zF_putI 16 dX8_copyFrom_13 rfl pX8_copyFrom_55 (Or.inl rfl) (cSt_fr h1 hcp1.1).1 (cSt_fr h1 hcp1.1).2.1 ?_
  have hcp2 : zCpA [] [1, 0] σ B b b' (zsi (zsi σ (B b) ((0 : Nat) : Int) (zia σ (B b') 0)) (B b) ((1 : Nat) : Int) (zia (zsi σ (B b) ((0 : Nat) : Int) (zia σ (B b') 0)) (B b') 1)) := zCp_int hi hd (by decide) hcp1 (zCp_src hi hd hcp1 _)
  refine zF_aload_n 17 dX8_copyFrom_16 rfl rfl ?_
  refine zF_aload_n 18 dX8_copyFrom_17 rfl rfl ?_
  refine zF_getI 21 dX8_copyFrom_18 rfl gX8_58 (by decide) (by decide) (cSt_fr h2 hcp2.1).1 (cSt_fr h2 hcp2.1).2.1 rfl ?_
  refine zF_putI 24 dX8_copyFrom_21 rfl pX8_copyFrom_58 (Or.inl rfl) (cSt_fr h1 hcp2.1).1 (cSt_fr h1 hcp2.1).2.1 ?_
  have hcp3 : zCpA [] [2, 1, 0] σ B b b' (zsi (zsi (zsi σ (B b) ((0 : Nat) : Int) (zia σ (B b') 0)) (B b) ((1 : Nat) : Int) (zia (zsi σ (B b) ((0 : Nat) : Int) (zia σ (B b') 0)) (B b') 1)) (B b) ((2 : Nat) : Int) (zia (zsi (zsi σ (B b) ((0 : Nat) : Int) (zia σ (B b') 0)) (B b) ((1 : Nat) : Int) (zia (zsi σ (B b) ((0 : Nat) : Int) (zia σ (B b') 0)) (B b') 1)) (B b') 2)) := zCp_int hi hd (by decide) hcp2 (zCp_src hi hd hcp2 _)
  refine zF_aload_n 25 dX8_copyFrom_24 rfl rfl ?_
  refine zF_getR 28 dX8_copyFrom_25 rfl gX8_9 (cSt_fr h2 hcp3.1).1 (cSt_fr h2 hcp3.1).2.1 ((cSt_fr h2 hcp3.1).2.2 3 4 (by decide)).1 ?_
  refine zF_aload_n 29 dX8_copyFrom_28 rfl rfl ?_
  refine zF_getR 32 dX8_copyFrom_29 rfl gX8_9 (cSt_fr h1 hcp3.1).1 (cSt_fr h1 hcp3.1).2.1 ((cSt_fr h1 hcp3.1).2.2 3 4 (by decide)).1 ?_
  refine zF_callSNv 35 (d2 := (d + 1)) (as := [zR (B (b' + 3)), zR (B (b + 3))]) dX8_copyFrom_32 rfl kX8_67n sX11_copyRow (Nat.le_refl _) rfl rfl (Nat.le_of_ble_eq_true rfl) (zE.mono (zt_cpRow hi hd (k := 3) (n := 4) (by decide) (by decide) (by decide) hcp3 ((cSt_fr h2 hcp3.1).2.2 3 4 (by decide)).2.2 ((cSt_fr h2 hcp3.1).2.2 3 4 (by decide)).2.1 ((cSt_fr h1 hcp3.1).2.2 3 4 (by decide)).2.2 ((cSt_fr h1 hcp3.1).2.2 3 4 (by decide)).2.1 (by decide)) fun ro σ4 hh => ?_)
  obtain ⟨er, en, hcp4⟩ := hh
  subst er
  refine ⟨en, rfl, ?_⟩
  show zF G mX8_copyFrom (d + 2) 35 [(0, zR (B b)), (1, zR (B b'))] [] σ4 _
  refine zF_aload_n 36 dX8_copyFrom_35 rfl rfl ?_
  refine zF_getR 39 dX8_copyFrom_36 rfl gX8_15 (cSt_fr h2 hcp4.1).1 (cSt_fr h2 hcp4.1).2.1 ((cSt_fr h2 hcp4.1).2.2 4 10 (by decide)).1 ?_
  refine zF_aload_n 40 dX8_copyFrom_39 rfl rfl ?_
  refine zF_getR 43 dX8_copyFrom_40 rfl gX8_15 (cSt_fr h1 hcp4.1).1 (cSt_fr h1 hcp4.1).2.1 ((cSt_fr h1 hcp4.1).2.2 4 10 (by decide)).1 ?_
  refine zF_callSNv 46 (d2 := (d + 1)) (as := [zR (B (b' + 4)), zR (B (b + 4))]) dX8_copyFrom_43 rfl kX8_67n sX11_copyRow (Nat.le_refl _) rfl rfl (Nat.le_of_ble_eq_true rfl) (zE.mono (zt_cpRow hi hd (k := 4) (n := 10) (by decide) (by decide) (by decide) hcp4 ((cSt_fr h2 hcp4.1).2.2 4 10 (by decide)).2.2 ((cSt_fr h2 hcp4.1).2.2 4 10 (by decide)).2.1 ((cSt_fr h1 hcp4.1).2.2 4 10 (by decide)).2.2 ((cSt_fr h1 hcp4.1).2.2 4 10 (by decide)).2.1 (by decide)) fun ro σ5 hh => ?_)
  obtain ⟨er, en, hcp5⟩ := hh
  subst er
  refine ⟨en, rfl, ?_⟩
  show zF G mX8_copyFrom (d + 2) 46 [(0, zR (B b)), (1, zR (B b'))] [] σ5 _
  refine zF_aload_n 47 dX8_copyFrom_46 rfl rfl ?_
  refine zF_getR 50 dX8_copyFrom_47 rfl gX8_18 (cSt_fr h2 hcp5.1).1 (cSt_fr h2 hcp5.1).2.1 ((cSt_fr h2 hcp5.1).2.2 5 30 (by decide)).1 ?_
  refine zF_aload_n 51 dX8_copyFrom_50 rfl rfl ?_
  refine zF_getR 54 dX8_copyFrom_51 rfl gX8_18 (cSt_fr h1 hcp5.1).1 (cSt_fr h1 hcp5.1).2.1 ((cSt_fr h1 hcp5.1).2.2 5 30 (by decide)).1 ?_
  refine zF_callSNv 57 (d2 := (d + 1)) (as := [zR (B (b' + 5)), zR (B (b + 5))]) dX8_copyFrom_54 rfl kX8_67n sX11_copyRow (Nat.le_refl _) rfl rfl (Nat.le_of_ble_eq_true rfl) (zE.mono (zt_cpRow hi hd (k := 5) (n := 30) (by decide) (by decide) (by decide) hcp5 ((cSt_fr h2 hcp5.1).2.2 5 30 (by decide)).2.2 ((cSt_fr h2 hcp5.1).2.2 5 30 (by decide)).2.1 ((cSt_fr h1 hcp5.1).2.2 5 30 (by decide)).2.2 ((cSt_fr h1 hcp5.1).2.2 5 30 (by decide)).2.1 (by decide)) fun ro σ6 hh => ?_)
  obtain ⟨er, en, hcp6⟩ := hh
  subst er
  refine ⟨en, rfl, ?_⟩
  show zF G mX8_copyFrom (d + 2) 57 [(0, zR (B b)), (1, zR (B b'))] [] σ6 _
  refine zF_aload_n 58 dX8_copyFrom_57 rfl rfl ?_
  refine zF_getR 61 dX8_copyFrom_58 rfl gX8_21 (cSt_fr h2 hcp6.1).1 (cSt_fr h2 hcp6.1).2.1 ((cSt_fr h2 hcp6.1).2.2 6 10 (by decide)).1 ?_
  refine zF_aload_n 62 dX8_copyFrom_61 rfl rfl ?_
  refine zF_getR 65 dX8_copyFrom_62 rfl gX8_21 (cSt_fr h1 hcp6.1).1 (cSt_fr h1 hcp6.1).2.1 ((cSt_fr h1 hcp6.1).2.2 6 10 (by decide)).1 ?_
  refine zF_callSNv 68 (d2 := (d + 1)) (as := [zR (B (b' + 6)), zR (B (b + 6))]) dX8_copyFrom_65 rfl kX8_67n sX11_copyRow (Nat.le_refl _) rfl rfl (Nat.le_of_ble_eq_true rfl) (zE.mono (zt_cpRow hi hd (k := 6) (n := 10) (by decide) (by decide) (by decide) hcp6 ((cSt_fr h2 hcp6.1).2.2 6 10 (by decide)).2.2 ((cSt_fr h2 hcp6.1).2.2 6 10 (by decide)).2.1 ((cSt_fr h1 hcp6.1).2.2 6 10 (by decide)).2.2 ((cSt_fr h1 hcp6.1).2.2 6 10 (by decide)).2.1 (by decide)) fun ro σ7 hh => ?_)
  obtain ⟨er, en, hcp7⟩ := hh
  subst er
  refine ⟨en, rfl, ?_⟩
  show zF G mX8_copyFrom (d + 2) 68 [(0, zR (B b)), (1, zR (B b'))] [] σ7 _
  refine zF_aload_n 69 dX8_copyFrom_68 rfl rfl ?_
  refine zF_getR 72 dX8_copyFrom_69 rfl gX8_24 (cSt_fr h2 hcp7.1).1 (cSt_fr h2 hcp7.1).2.1 ((cSt_fr h2 hcp7.1).2.2 7 10 (by decide)).1 ?_
  refine zF_aload_n 73 dX8_copyFrom_72 rfl rfl ?_
  refine zF_getR 76 dX8_copyFrom_73 rfl gX8_24 (cSt_fr h1 hcp7.1).1 (cSt_fr h1 hcp7.1).2.1 ((cSt_fr h1 hcp7.1).2.2 7 10 (by decide)).1 ?_
  refine zF_callSNv 79 (d2 := (d + 1)) (as := [zR (B (b' + 7)), zR (B (b + 7))]) dX8_copyFrom_76 rfl kX8_67n sX11_copyRow (Nat.le_refl _) rfl rfl (Nat.le_of_ble_eq_true rfl) (zE.mono (zt_cpRow hi hd (k := 7) (n := 10) (by decide) (by decide) (by decide) hcp7 ((cSt_fr h2 hcp7.1).2.2 7 10 (by decide)).2.2 ((cSt_fr h2 hcp7.1).2.2 7 10 (by decide)).2.1 ((cSt_fr h1 hcp7.1).2.2 7 10 (by decide)).2.2 ((cSt_fr h1 hcp7.1).2.2 7 10 (by decide)).2.1 (by decide)) fun ro σ8 hh => ?_)
  obtain ⟨er, en, hcp8⟩ := hh
  subst er
  refine ⟨en, rfl, ?_⟩
  show zF G mX8_copyFrom (d + 2) 79 [(0, zR (B b)), (1, zR (B b'))] [] σ8 _
  refine zF_aload_n 80 dX8_copyFrom_79 rfl rfl ?_
  refine zF_getR 83 dX8_copyFrom_80 rfl gX8_27 (cSt_fr h2 hcp8.1).1 (cSt_fr h2 hcp8.1).2.1 ((cSt_fr h2 hcp8.1).2.2 8 10 (by decide)).1 ?_
  refine zF_aload_n 84 dX8_copyFrom_83 rfl rfl ?_
  refine zF_getR 87 dX8_copyFrom_84 rfl gX8_27 (cSt_fr h1 hcp8.1).1 (cSt_fr h1 hcp8.1).2.1 ((cSt_fr h1 hcp8.1).2.2 8 10 (by decide)).1 ?_
  refine zF_callSNv 90 (d2 := (d + 1)) (as := [zR (B (b' + 8)), zR (B (b + 8))]) dX8_copyFrom_87 rfl kX8_67n sX11_copyRow (Nat.le_refl _) rfl rfl (Nat.le_of_ble_eq_true rfl) (zE.mono (zt_cpRow hi hd (k := 8) (n := 10) (by decide) (by decide) (by decide) hcp8 ((cSt_fr h2 hcp8.1).2.2 8 10 (by decide)).2.2 ((cSt_fr h2 hcp8.1).2.2 8 10 (by decide)).2.1 ((cSt_fr h1 hcp8.1).2.2 8 10 (by decide)).2.2 ((cSt_fr h1 hcp8.1).2.2 8 10 (by decide)).2.1 (by decide)) fun ro σ9 hh => ?_)
  obtain ⟨er, en, hcp9⟩ := hh
  subst er
  refine ⟨en, rfl, ?_⟩
  show zF G mX8_copyFrom (d + 2) 90 [(0, zR (B b)), (1, zR (B b'))] [] σ9 _
  refine zF_aload_n 91 dX8_copyFrom_90 rfl rfl ?_
  refine zF_getR 94 dX8_copyFrom_91 rfl gX8_30 (cSt_fr h2 hcp9.1).1 (cSt_fr h2 hcp9.1).2.1 ((cSt_fr h2 hcp9.1).2.2 9 10 (by decide)).1 ?_
  refine zF_aload_n 95 dX8_copyFrom_94 rfl rfl ?_
  refine zF_getR 98 dX8_copyFrom_95 rfl gX8_30 (cSt_fr h1 hcp9.1).1 (cSt_fr h1 hcp9.1).2.1 ((cSt_fr h1 hcp9.1).2.2 9 10 (by decide)).1 ?_
  refine zF_callSNv 101 (d2 := (d + 1)) (as := [zR (B (b' + 9)), zR (B (b + 9))]) dX8_copyFrom_98 rfl kX8_67n sX11_copyRow (Nat.le_refl _) rfl rfl (Nat.le_of_ble_eq_true rfl) (zE.mono (zt_cpRow hi hd (k := 9) (n := 10) (by decide) (by decide) (by decide) hcp9 ((cSt_fr h2 hcp9.1).2.2 9 10 (by decide)).2.2 ((cSt_fr h2 hcp9.1).2.2 9 10 (by decide)).2.1 ((cSt_fr h1 hcp9.1).2.2 9 10 (by decide)).2.2 ((cSt_fr h1 hcp9.1).2.2 9 10 (by decide)).2.1 (by decide)) fun ro σ10 hh => ?_)
  obtain ⟨er, en, hcp10⟩ := hh
  subst er
  refine ⟨en, rfl, ?_⟩
  show zF G mX8_copyFrom (d + 2) 101 [(0, zR (B b)), (1, zR (B b'))] [] σ10 _
  refine zF_aload_n 102 dX8_copyFrom_101 rfl rfl ?_
  refine zF_getR 105 dX8_copyFrom_102 rfl gX8_33 (cSt_fr h2 hcp10.1).1 (cSt_fr h2 hcp10.1).2.1 ((cSt_fr h2 hcp10.1).2.2 10 6 (by decide)).1 ?_
  refine zF_aload_n 106 dX8_copyFrom_105 rfl rfl ?_
  refine zF_getR 109 dX8_copyFrom_106 rfl gX8_33 (cSt_fr h1 hcp10.1).1 (cSt_fr h1 hcp10.1).2.1 ((cSt_fr h1 hcp10.1).2.2 10 6 (by decide)).1 ?_
  refine zF_callSNv 112 (d2 := (d + 1)) (as := [zR (B (b' + 10)), zR (B (b + 10))]) dX8_copyFrom_109 rfl kX8_67n sX11_copyRow (Nat.le_refl _) rfl rfl (Nat.le_of_ble_eq_true rfl) (zE.mono (zt_cpRow hi hd (k := 10) (n := 6) (by decide) (by decide) (by decide) hcp10 ((cSt_fr h2 hcp10.1).2.2 10 6 (by decide)).2.2 ((cSt_fr h2 hcp10.1).2.2 10 6 (by decide)).2.1 ((cSt_fr h1 hcp10.1).2.2 10 6 (by decide)).2.2 ((cSt_fr h1 hcp10.1).2.2 10 6 (by decide)).2.1 (by decide)) fun ro σ11 hh => ?_)
  obtain ⟨er, en, hcp11⟩ := hh
  subst er
  refine ⟨en, rfl, ?_⟩
  show zF G mX8_copyFrom (d + 2) 112 [(0, zR (B b)), (1, zR (B b'))] [] σ11 _
  refine zF_aload_n 113 dX8_copyFrom_112 rfl rfl ?_
  refine zF_getR 116 dX8_copyFrom_113 rfl gX8_36 (cSt_fr h2 hcp11.1).1 (cSt_fr h2 hcp11.1).2.1 ((cSt_fr h2 hcp11.1).2.2 11 6 (by decide)).1 ?_
  refine zF_aload_n 117 dX8_copyFrom_116 rfl rfl ?_
  refine zF_getR 120 dX8_copyFrom_117 rfl gX8_36 (cSt_fr h1 hcp11.1).1 (cSt_fr h1 hcp11.1).2.1 ((cSt_fr h1 hcp11.1).2.2 11 6 (by decide)).1 ?_
  refine zF_callSNv 123 (d2 := (d + 1)) (as := [zR (B (b' + 11)), zR (B (b + 11))]) dX8_copyFrom_120 rfl kX8_67n sX11_copyRow (Nat.le_refl _) rfl rfl (Nat.le_of_ble_eq_true rfl) (zE.mono (zt_cpRow hi hd (k := 11) (n := 6) (by decide) (by decide) (by decide) hcp11 ((cSt_fr h2 hcp11.1).2.2 11 6 (by decide)).2.2 ((cSt_fr h2 hcp11.1).2.2 11 6 (by decide)).2.1 ((cSt_fr h1 hcp11.1).2.2 11 6 (by decide)).2.2 ((cSt_fr h1 hcp11.1).2.2 11 6 (by decide)).2.1 (by decide)) fun ro σ12 hh => ?_)
  obtain ⟨er, en, hcp12⟩ := hh
  subst er
  refine ⟨en, rfl, ?_⟩
  show zF G mX8_copyFrom (d + 2) 123 [(0, zR (B b)), (1, zR (B b'))] [] σ12 _
  refine zF_aload_n 124 dX8_copyFrom_123 rfl rfl ?_
  refine zF_getR 127 dX8_copyFrom_124 rfl gX8_39 (cSt_fr h2 hcp12.1).1 (cSt_fr h2 hcp12.1).2.1 ((cSt_fr h2 hcp12.1).2.2 12 6 (by decide)).1 ?_
  refine zF_aload_n 128 dX8_copyFrom_127 rfl rfl ?_
  refine zF_getR 131 dX8_copyFrom_128 rfl gX8_39 (cSt_fr h1 hcp12.1).1 (cSt_fr h1 hcp12.1).2.1 ((cSt_fr h1 hcp12.1).2.2 12 6 (by decide)).1 ?_
  refine zF_callSNv 134 (d2 := (d + 1)) (as := [zR (B (b' + 12)), zR (B (b + 12))]) dX8_copyFrom_131 rfl kX8_67n sX11_copyRow (Nat.le_refl _) rfl rfl (Nat.le_of_ble_eq_true rfl) (zE.mono (zt_cpRow hi hd (k := 12) (n := 6) (by decide) (by decide) (by decide) hcp12 ((cSt_fr h2 hcp12.1).2.2 12 6 (by decide)).2.2 ((cSt_fr h2 hcp12.1).2.2 12 6 (by decide)).2.1 ((cSt_fr h1 hcp12.1).2.2 12 6 (by decide)).2.2 ((cSt_fr h1 hcp12.1).2.2 12 6 (by decide)).2.1 (by decide)) fun ro σ13 hh => ?_)
  obtain ⟨er, en, hcp13⟩ := hh
  subst er
  refine ⟨en, rfl, ?_⟩
  show zF G mX8_copyFrom (d + 2) 134 [(0, zR (B b)), (1, zR (B b'))] [] σ13 _
  refine zF_aload_n 135 dX8_copyFrom_134 rfl rfl ?_
  refine zF_getR 138 dX8_copyFrom_135 rfl gX8_42 (cSt_fr h2 hcp13.1).1 (cSt_fr h2 hcp13.1).2.1 ((cSt_fr h2 hcp13.1).2.2 13 24 (by decide)).1 ?_
  refine zF_aload_n 139 dX8_copyFrom_138 rfl rfl ?_
  refine zF_getR 142 dX8_copyFrom_139 rfl gX8_42 (cSt_fr h1 hcp13.1).1 (cSt_fr h1 hcp13.1).2.1 ((cSt_fr h1 hcp13.1).2.2 13 24 (by decide)).1 ?_
  refine zF_callSNv 145 (d2 := (d + 1)) (as := [zR (B (b' + 13)), zR (B (b + 13))]) dX8_copyFrom_142 rfl kX8_67n sX11_copyRow (Nat.le_refl _) rfl rfl (Nat.le_of_ble_eq_true rfl) (zE.mono (zt_cpRow hi hd (k := 13) (n := 24) (by decide) (by decide) (by decide) hcp13 ((cSt_fr h2 hcp13.1).2.2 13 24 (by decide)).2.2 ((cSt_fr h2 hcp13.1).2.2 13 24 (by decide)).2.1 ((cSt_fr h1 hcp13.1).2.2 13 24 (by decide)).2.2 ((cSt_fr h1 hcp13.1).2.2 13 24 (by decide)).2.1 (by decide)) fun ro σ14 hh => ?_)
  obtain ⟨er, en, hcp14⟩ := hh
  subst er
  refine ⟨en, rfl, ?_⟩
  show zF G mX8_copyFrom (d + 2) 145 [(0, zR (B b)), (1, zR (B b'))] [] σ14 _
  refine zF_aload_n 146 dX8_copyFrom_145 rfl rfl ?_
  refine zF_getR 149 dX8_copyFrom_146 rfl gX8_45 (cSt_fr h2 hcp14.1).1 (cSt_fr h2 hcp14.1).2.1 ((cSt_fr h2 hcp14.1).2.2 14 4 (by decide)).1 ?_
  refine zF_aload_n 150 dX8_copyFrom_149 rfl rfl ?_
  refine zF_getR 153 dX8_copyFrom_150 rfl gX8_45 (cSt_fr h1 hcp14.1).1 (cSt_fr h1 hcp14.1).2.1 ((cSt_fr h1 hcp14.1).2.2 14 4 (by decide)).1 ?_
  refine zF_callSNv 156 (d2 := (d + 1)) (as := [zR (B (b' + 14)), zR (B (b + 14))]) dX8_copyFrom_153 rfl kX8_67n sX11_copyRow (Nat.le_refl _) rfl rfl (Nat.le_of_ble_eq_true rfl) (zE.mono (zt_cpRow hi hd (k := 14) (n := 4) (by decide) (by decide) (by decide) hcp14 ((cSt_fr h2 hcp14.1).2.2 14 4 (by decide)).2.2 ((cSt_fr h2 hcp14.1).2.2 14 4 (by decide)).2.1 ((cSt_fr h1 hcp14.1).2.2 14 4 (by decide)).2.2 ((cSt_fr h1 hcp14.1).2.2 14 4 (by decide)).2.1 (by decide)) fun ro σ15 hh => ?_)
  obtain ⟨er, en, hcp15⟩ := hh
  subst er
  refine ⟨en, rfl, ?_⟩
  show zF G mX8_copyFrom (d + 2) 156 [(0, zR (B b)), (1, zR (B b'))] [] σ15 _
  refine zF_aload_n 157 dX8_copyFrom_156 rfl rfl ?_
  refine zF_getR 160 dX8_copyFrom_157 rfl gX8_48 (cSt_fr h2 hcp15.1).1 (cSt_fr h2 hcp15.1).2.1 ((cSt_fr h2 hcp15.1).2.2 15 100 (by decide)).1 ?_
  refine zF_aload_n 161 dX8_copyFrom_160 rfl rfl ?_
  refine zF_getR 164 dX8_copyFrom_161 rfl gX8_48 (cSt_fr h1 hcp15.1).1 (cSt_fr h1 hcp15.1).2.1 ((cSt_fr h1 hcp15.1).2.2 15 100 (by decide)).1 ?_
  refine zF_callSNv 167 (d2 := (d + 1)) (as := [zR (B (b' + 15)), zR (B (b + 15))]) dX8_copyFrom_164 rfl kX8_67n sX11_copyRow (Nat.le_refl _) rfl rfl (Nat.le_of_ble_eq_true rfl) (zE.mono (zt_cpRow hi hd (k := 15) (n := 100) (by decide) (by decide) (by decide) hcp15 ((cSt_fr h2 hcp15.1).2.2 15 100 (by decide)).2.2 ((cSt_fr h2 hcp15.1).2.2 15 100 (by decide)).2.1 ((cSt_fr h1 hcp15.1).2.2 15 100 (by decide)).2.2 ((cSt_fr h1 hcp15.1).2.2 15 100 (by decide)).2.1 (by decide)) fun ro σ16 hh => ?_)
  obtain ⟨er, en, hcp16⟩ := hh
  subst er
  refine ⟨en, rfl, ?_⟩
  show zF G mX8_copyFrom (d + 2) 167 [(0, zR (B b)), (1, zR (B b'))] [] σ16 _
  exact zF_return dX8_copyFrom_167 rfl (⟨rfl, hcp16⟩)
theorem zt_X1_copyFrom {B : Nat → Nat} {b b' : Nat} (hi : ∀ i j, B i = B j → i = j) (hd : b + 16 ≤ b' ∨ b' + 16 ≤ b) (h1 : cCh σ B b) (h2 : cCh σ B b') : zE G mX1_copyFrom (d + 2) [zR (B b), zR (B b')] σ (fun ro σ1 => ro = .inl none ∧ zCpA [(12, 24), (11, 6), (10, 6), (9, 6), (8, 6), (6, 10), (5, 10), (4, 10), (2, 4), (1, 4)] [7, 3, 0] σ B b b' σ1) := by
  refine zE_of rfl (by simp [zcat]) (Nat.le_of_ble_eq_true rfl) ?_
  show zF G mX1_copyFrom (d + 2) 0 [(0, zR (B b)), (1, zR (B b'))] [] σ _
  have hcp0 : zCpA [] [] σ B b b' σ := ⟨zFr.rf, fun k h => (by cases h), fun k n h => (by cases h)⟩
  refine zF_aload_n 1 dX1_copyFrom_0 rfl rfl ?_
  refine zF_aload_n 2 dX1_copyFrom_1 rfl rfl ?_
  refine zF_getI 5 dX1_copyFrom_2 rfl gX1_42 (by decide) (by decide) (cCh_fr h2 hcp0.1).1 (cCh_fr h2 hcp0.1).2.1 rfl ?_
  refine zF_putI 8 dX1_copyFrom_5 rfl pX1_copyFrom_42 (Or.inl rfl) (cCh_fr h1 hcp0.1).1 (cCh_fr h1 hcp0.1).2.1 ?_
  have hcp1 : zCpA [] [0] σ B b b' (zsi σ (B b) ((0 : Nat) : Int) (zia σ (B b') 0)) := zCp_int hi hd (by decide) hcp0 (zCp_src hi hd hcp0 _)
  refine zF_aload_n 9 dX1_copyFrom_8 rfl rfl ?_
  refine zF_getR 12 dX1_copyFrom_9 rfl gX1_9 (cCh_fr h2 hcp1.1).1 (cCh_fr h2 hcp1.1).2.1 ((cCh_fr h2 hcp1.1).2.2 1 4 (by decide)).1 ?_
  refine zF_aload_n 13 dX1_copyFrom_12 rfl rfl ?_
  refine zF_getR 16 dX1_copyFrom_13 rfl gX1_9 (cCh_fr h1 hcp1.1).1 (cCh_fr h1 hcp1.1).2.1 ((cCh_fr h1 hcp1.1).2.2 1 4 (by decide)).1 ?_
  refine zF_callSNv 19 (d2 := (d + 1)) (as := [zR (B (b' + 1)), zR (B (b + 1))]) dX1_copyFrom_16 rfl kX1_52n sX11_copyRow (Nat.le_refl _) rfl rfl (Nat.le_of_ble_eq_true rfl) (zE.mono (zt_cpRow hi hd (k := 1) (n := 4) (by decide) (by decide) (by decide) hcp1 ((cCh_fr h2 hcp1.1).2.2 1 4 (by decide)).2.2 ((cCh_fr h2 hcp1.1).2.2 1 4 (by decide)).2.1 ((cCh_fr h1 hcp1.1).2.2 1 4 (by decide)).2.2 ((cCh_fr h1 hcp1.1).2.2 1 4 (by decide)).2.1 (by decide)) fun ro σ2 hh => ?_)
  obtain ⟨er, en, hcp2⟩ := hh
  subst er
  refine ⟨en, rfl, ?_⟩
  show zF G mX1_copyFrom (d + 2) 19 [(0, zR (B b)), (1, zR (B b'))] [] σ2 _
  refine zF_aload_n 20 dX1_copyFrom_19 rfl rfl ?_
  refine zF_getR 23 dX1_copyFrom_20 rfl gX1_15 (cCh_fr h2 hcp2.1).1 (cCh_fr h2 hcp2.1).2.1 ((cCh_fr h2 hcp2.1).2.2 2 4 (by decide)).1 ?_
  refine zF_aload_n 24 dX1_copyFrom_23 rfl rfl ?_
  refine zF_getR 27 dX1_copyFrom_24 rfl gX1_15 (cCh_fr h1 hcp2.1).1 (cCh_fr h1 hcp2.1).2.1 ((cCh_fr h1 hcp2.1).2.2 2 4 (by decide)).1 ?_
  refine zF_callSNv 30 (d2 := (d + 1)) (as := [zR (B (b' + 2)), zR (B (b + 2))]) dX1_copyFrom_27 rfl kX1_52n sX11_copyRow (Nat.le_refl _) rfl rfl (Nat.le_of_ble_eq_true rfl) (zE.mono (zt_cpRow hi hd (k := 2) (n := 4) (by decide) (by decide) (by decide) hcp2 ((cCh_fr h2 hcp2.1).2.2 2 4 (by decide)).2.2 ((cCh_fr h2 hcp2.1).2.2 2 4 (by decide)).2.1 ((cCh_fr h1 hcp2.1).2.2 2 4 (by decide)).2.2 ((cCh_fr h1 hcp2.1).2.2 2 4 (by decide)).2.1 (by decide)) fun ro σ3 hh => ?_)
  obtain ⟨er, en, hcp3⟩ := hh
  subst er
  refine ⟨en, rfl, ?_⟩
  show zF G mX1_copyFrom (d + 2) 30 [(0, zR (B b)), (1, zR (B b'))] [] σ3 _
  refine zF_aload_n 31 dX1_copyFrom_30 rfl rfl ?_
  refine zF_aload_n 32 dX1_copyFrom_31 rfl rfl ?_
  refine zF_getI 35 dX1_copyFrom_32 rfl gX1_46 (by decide) (by decide) (cCh_fr h2 hcp3.1).1 (cCh_fr h2 hcp3.1).2.1 rfl ?_
  refine zF_putI 38 dX1_copyFrom_35 rfl pX1_copyFrom_46 (Or.inl rfl) (cCh_fr h1 hcp3.1).1 (cCh_fr h1 hcp3.1).2.1 ?_
  have hcp4 : zCpA [(2, 4), (1, 4)] [3, 0] σ B b b' (zsi σ3 (B b) ((3 : Nat) : Int) (zia σ3 (B b') 3)) := zCp_int hi hd (by decide) hcp3 (zCp_src hi hd hcp3 _)
  refine zF_aload_n 39 dX1_copyFrom_38 rfl rfl ?_
  refine zF_getR 42 dX1_copyFrom_39 rfl gX1_18 (cCh_fr h2 hcp4.1).1 (cCh_fr h2 hcp4.1).2.1 ((cCh_fr h2 hcp4.1).2.2 4 10 (by decide)).1 ?_
  refine zF_aload_n 43 dX1_copyFrom_42 rfl rfl ?_
  refine zF_getR 46 dX1_copyFrom_43 rfl gX1_18 (cCh_fr h1 hcp4.1).1 (cCh_fr h1 hcp4.1).2.1 ((cCh_fr h1 hcp4.1).2.2 4 10 (by decide)).1 ?_
  refine zF_callSNv 49 (d2 := (d + 1)) (as := [zR (B (b' + 4)), zR (B (b + 4))]) dX1_copyFrom_46 rfl kX1_52n sX11_copyRow (Nat.le_refl _) rfl rfl (Nat.le_of_ble_eq_true rfl) (zE.mono (zt_cpRow hi hd (k := 4) (n := 10) (by decide) (by decide) (by decide) hcp4 ((cCh_fr h2 hcp4.1).2.2 4 10 (by decide)).2.2 ((cCh_fr h2 hcp4.1).2.2 4 10 (by decide)).2.1 ((cCh_fr h1 hcp4.1).2.2 4 10 (by decide)).2.2 ((cCh_fr h1 hcp4.1).2.2 4 10 (by decide)).2.1 (by decide)) fun ro σ5 hh => ?_)
  obtain ⟨er, en, hcp5⟩ := hh
  subst er
  refine ⟨en, rfl, ?_⟩
  show zF G mX1_copyFrom (d + 2) 49 [(0, zR (B b)), (1, zR (B b'))] [] σ5 _
  refine zF_aload_n 50 dX1_copyFrom_49 rfl rfl ?_
  refine zF_getR 53 dX1_copyFrom_50 rfl gX1_21 (cCh_fr h2 hcp5.1).1 (cCh_fr h2 hcp5.1).2.1 ((cCh_fr h2 hcp5.1).2.2 5 10 (by decide)).1 ?_
  refine zF_aload_n 54 dX1_copyFrom_53 rfl rfl ?_
  refine zF_getR 57 dX1_copyFrom_54 rfl gX1_21 (cCh_fr h1 hcp5.1).1 (cCh_fr h1 hcp5.1).2.1 ((cCh_fr h1 hcp5.1).2.2 5 10 (by decide)).1 ?_
  refine zF_callSNv 60 (d2 := (d + 1)) (as := [zR (B (b' + 5)), zR (B (b + 5))]) dX1_copyFrom_57 rfl kX1_52n sX11_copyRow (Nat.le_refl _) rfl rfl (Nat.le_of_ble_eq_true rfl) (zE.mono (zt_cpRow hi hd (k := 5) (n := 10) (by decide) (by decide) (by decide) hcp5 ((cCh_fr h2 hcp5.1).2.2 5 10 (by decide)).2.2 ((cCh_fr h2 hcp5.1).2.2 5 10 (by decide)).2.1 ((cCh_fr h1 hcp5.1).2.2 5 10 (by decide)).2.2 ((cCh_fr h1 hcp5.1).2.2 5 10 (by decide)).2.1 (by decide)) fun ro σ6 hh => ?_)
  obtain ⟨er, en, hcp6⟩ := hh
  subst er
  refine ⟨en, rfl, ?_⟩
  show zF G mX1_copyFrom (d + 2) 60 [(0, zR (B b)), (1, zR (B b'))] [] σ6 _
  refine zF_aload_n 61 dX1_copyFrom_60 rfl rfl ?_
  refine zF_getR 64 dX1_copyFrom_61 rfl gX1_24 (cCh_fr h2 hcp6.1).1 (cCh_fr h2 hcp6.1).2.1 ((cCh_fr h2 hcp6.1).2.2 6 10 (by decide)).1 ?_
  refine zF_aload_n 65 dX1_copyFrom_64 rfl rfl ?_
  refine zF_getR 68 dX1_copyFrom_65 rfl gX1_24 (cCh_fr h1 hcp6.1).1 (cCh_fr h1 hcp6.1).2.1 ((cCh_fr h1 hcp6.1).2.2 6 10 (by decide)).1 ?_
  refine zF_callSNv 71 (d2 := (d + 1)) (as := [zR (B (b' + 6)), zR (B (b + 6))]) dX1_copyFrom_68 rfl kX1_52n sX11_copyRow (Nat.le_refl _) rfl rfl (Nat.le_of_ble_eq_true rfl) (zE.mono (zt_cpRow hi hd (k := 6) (n := 10) (by decide) (by decide) (by decide) hcp6 ((cCh_fr h2 hcp6.1).2.2 6 10 (by decide)).2.2 ((cCh_fr h2 hcp6.1).2.2 6 10 (by decide)).2.1 ((cCh_fr h1 hcp6.1).2.2 6 10 (by decide)).2.2 ((cCh_fr h1 hcp6.1).2.2 6 10 (by decide)).2.1 (by decide)) fun ro σ7 hh => ?_)
  obtain ⟨er, en, hcp7⟩ := hh
  subst er
  refine ⟨en, rfl, ?_⟩
  show zF G mX1_copyFrom (d + 2) 71 [(0, zR (B b)), (1, zR (B b'))] [] σ7 _
  refine zF_aload_n 72 dX1_copyFrom_71 rfl rfl ?_
  refine zF_aload_n 73 dX1_copyFrom_72 rfl rfl ?_
  refine zF_getI 76 dX1_copyFrom_73 rfl gX1_49 (by decide) (by decide) (cCh_fr h2 hcp7.1).1 (cCh_fr h2 hcp7.1).2.1 rfl ?_
  refine zF_putI 79 dX1_copyFrom_76 rfl pX1_copyFrom_49 (Or.inl rfl) (cCh_fr h1 hcp7.1).1 (cCh_fr h1 hcp7.1).2.1 ?_
  have hcp8 : zCpA [(6, 10), (5, 10), (4, 10), (2, 4), (1, 4)] [7, 3, 0] σ B b b' (zsi σ7 (B b) ((7 : Nat) : Int) (zia σ7 (B b') 7)) := zCp_int hi hd (by decide) hcp7 (zCp_src hi hd hcp7 _)
  refine zF_aload_n 80 dX1_copyFrom_79 rfl rfl ?_
  refine zF_getR 83 dX1_copyFrom_80 rfl gX1_27 (cCh_fr h2 hcp8.1).1 (cCh_fr h2 hcp8.1).2.1 ((cCh_fr h2 hcp8.1).2.2 8 6 (by decide)).1 ?_
  refine zF_aload_n 84 dX1_copyFrom_83 rfl rfl ?_
  refine zF_getR 87 dX1_copyFrom_84 rfl gX1_27 (cCh_fr h1 hcp8.1).1 (cCh_fr h1 hcp8.1).2.1 ((cCh_fr h1 hcp8.1).2.2 8 6 (by decide)).1 ?_
  refine zF_callSNv 90 (d2 := (d + 1)) (as := [zR (B (b' + 8)), zR (B (b + 8))]) dX1_copyFrom_87 rfl kX1_52n sX11_copyRow (Nat.le_refl _) rfl rfl (Nat.le_of_ble_eq_true rfl) (zE.mono (zt_cpRow hi hd (k := 8) (n := 6) (by decide) (by decide) (by decide) hcp8 ((cCh_fr h2 hcp8.1).2.2 8 6 (by decide)).2.2 ((cCh_fr h2 hcp8.1).2.2 8 6 (by decide)).2.1 ((cCh_fr h1 hcp8.1).2.2 8 6 (by decide)).2.2 ((cCh_fr h1 hcp8.1).2.2 8 6 (by decide)).2.1 (by decide)) fun ro σ9 hh => ?_)
  obtain ⟨er, en, hcp9⟩ := hh
  subst er
  refine ⟨en, rfl, ?_⟩
  show zF G mX1_copyFrom (d + 2) 90 [(0, zR (B b)), (1, zR (B b'))] [] σ9 _
  refine zF_aload_n 91 dX1_copyFrom_90 rfl rfl ?_
  refine zF_getR 94 dX1_copyFrom_91 rfl gX1_30 (cCh_fr h2 hcp9.1).1 (cCh_fr h2 hcp9.1).2.1 ((cCh_fr h2 hcp9.1).2.2 9 6 (by decide)).1 ?_
  refine zF_aload_n 95 dX1_copyFrom_94 rfl rfl ?_
  refine zF_getR 98 dX1_copyFrom_95 rfl gX1_30 (cCh_fr h1 hcp9.1).1 (cCh_fr h1 hcp9.1).2.1 ((cCh_fr h1 hcp9.1).2.2 9 6 (by decide)).1 ?_
  refine zF_callSNv 101 (d2 := (d + 1)) (as := [zR (B (b' + 9)), zR (B (b + 9))]) dX1_copyFrom_98 rfl kX1_52n sX11_copyRow (Nat.le_refl _) rfl rfl (Nat.le_of_ble_eq_true rfl) (zE.mono (zt_cpRow hi hd (k := 9) (n := 6) (by decide) (by decide) (by decide) hcp9 ((cCh_fr h2 hcp9.1).2.2 9 6 (by decide)).2.2 ((cCh_fr h2 hcp9.1).2.2 9 6 (by decide)).2.1 ((cCh_fr h1 hcp9.1).2.2 9 6 (by decide)).2.2 ((cCh_fr h1 hcp9.1).2.2 9 6 (by decide)).2.1 (by decide)) fun ro σ10 hh => ?_)
  obtain ⟨er, en, hcp10⟩ := hh
  subst er
  refine ⟨en, rfl, ?_⟩
  show zF G mX1_copyFrom (d + 2) 101 [(0, zR (B b)), (1, zR (B b'))] [] σ10 _
  refine zF_aload_n 102 dX1_copyFrom_101 rfl rfl ?_
  refine zF_getR 105 dX1_copyFrom_102 rfl gX1_33 (cCh_fr h2 hcp10.1).1 (cCh_fr h2 hcp10.1).2.1 ((cCh_fr h2 hcp10.1).2.2 10 6 (by decide)).1 ?_
  refine zF_aload_n 106 dX1_copyFrom_105 rfl rfl ?_
  refine zF_getR 109 dX1_copyFrom_106 rfl gX1_33 (cCh_fr h1 hcp10.1).1 (cCh_fr h1 hcp10.1).2.1 ((cCh_fr h1 hcp10.1).2.2 10 6 (by decide)).1 ?_
  refine zF_callSNv 112 (d2 := (d + 1)) (as := [zR (B (b' + 10)), zR (B (b + 10))]) dX1_copyFrom_109 rfl kX1_52n sX11_copyRow (Nat.le_refl _) rfl rfl (Nat.le_of_ble_eq_true rfl) (zE.mono (zt_cpRow hi hd (k := 10) (n := 6) (by decide) (by decide) (by decide) hcp10 ((cCh_fr h2 hcp10.1).2.2 10 6 (by decide)).2.2 ((cCh_fr h2 hcp10.1).2.2 10 6 (by decide)).2.1 ((cCh_fr h1 hcp10.1).2.2 10 6 (by decide)).2.2 ((cCh_fr h1 hcp10.1).2.2 10 6 (by decide)).2.1 (by decide)) fun ro σ11 hh => ?_)
  obtain ⟨er, en, hcp11⟩ := hh
  subst er
  refine ⟨en, rfl, ?_⟩
  show zF G mX1_copyFrom (d + 2) 112 [(0, zR (B b)), (1, zR (B b'))] [] σ11 _
  refine zF_aload_n 113 dX1_copyFrom_112 rfl rfl ?_
  refine zF_getR 116 dX1_copyFrom_113 rfl gX1_36 (cCh_fr h2 hcp11.1).1 (cCh_fr h2 hcp11.1).2.1 ((cCh_fr h2 hcp11.1).2.2 11 6 (by decide)).1 ?_
  refine zF_aload_n 117 dX1_copyFrom_116 rfl rfl ?_
  refine zF_getR 120 dX1_copyFrom_117 rfl gX1_36 (cCh_fr h1 hcp11.1).1 (cCh_fr h1 hcp11.1).2.1 ((cCh_fr h1 hcp11.1).2.2 11 6 (by decide)).1 ?_
  refine zF_callSNv 123 (d2 := (d + 1)) (as := [zR (B (b' + 11)), zR (B (b + 11))]) dX1_copyFrom_120 rfl kX1_52n sX11_copyRow (Nat.le_refl _) rfl rfl (Nat.le_of_ble_eq_true rfl) (zE.mono (zt_cpRow hi hd (k := 11) (n := 6) (by decide) (by decide) (by decide) hcp11 ((cCh_fr h2 hcp11.1).2.2 11 6 (by decide)).2.2 ((cCh_fr h2 hcp11.1).2.2 11 6 (by decide)).2.1 ((cCh_fr h1 hcp11.1).2.2 11 6 (by decide)).2.2 ((cCh_fr h1 hcp11.1).2.2 11 6 (by decide)).2.1 (by decide)) fun ro σ12 hh => ?_)
  obtain ⟨er, en, hcp12⟩ := hh
  subst er
  refine ⟨en, rfl, ?_⟩
  show zF G mX1_copyFrom (d + 2) 123 [(0, zR (B b)), (1, zR (B b'))] [] σ12 _
  refine zF_aload_n 124 dX1_copyFrom_123 rfl rfl ?_
  refine zF_getR 127 dX1_copyFrom_124 rfl gX1_39 (cCh_fr h2 hcp12.1).1 (cCh_fr h2 hcp12.1).2.1 ((cCh_fr h2 hcp12.1).2.2 12 24 (by decide)).1 ?_
  refine zF_aload_n 128 dX1_copyFrom_127 rfl rfl ?_
  refine zF_getR 131 dX1_copyFrom_128 rfl gX1_39 (cCh_fr h1 hcp12.1).1 (cCh_fr h1 hcp12.1).2.1 ((cCh_fr h1 hcp12.1).2.2 12 24 (by decide)).1 ?_
  refine zF_callSNv 134 (d2 := (d + 1)) (as := [zR (B (b' + 12)), zR (B (b + 12))]) dX1_copyFrom_131 rfl kX1_52n sX11_copyRow (Nat.le_refl _) rfl rfl (Nat.le_of_ble_eq_true rfl) (zE.mono (zt_cpRow hi hd (k := 12) (n := 24) (by decide) (by decide) (by decide) hcp12 ((cCh_fr h2 hcp12.1).2.2 12 24 (by decide)).2.2 ((cCh_fr h2 hcp12.1).2.2 12 24 (by decide)).2.1 ((cCh_fr h1 hcp12.1).2.2 12 24 (by decide)).2.2 ((cCh_fr h1 hcp12.1).2.2 12 24 (by decide)).2.1 (by decide)) fun ro σ13 hh => ?_)
  obtain ⟨er, en, hcp13⟩ := hh
  subst er
  refine ⟨en, rfl, ?_⟩
  show zF G mX1_copyFrom (d + 2) 134 [(0, zR (B b)), (1, zR (B b'))] [] σ13 _
  exact zF_return dX1_copyFrom_134 rfl (⟨rfl, hcp13⟩)
end ZC5

/-! the reference: taking tokens -/
section ZMU
variable {G : zG} {d : Nat} {σ σ0 : zMem} {hm : Nat} {A : Nat → Nat} {t : Int → Int} {L : Nat} {s : tS}
theorem zlcm_p {a b : Int} : (0 < zlcm a b ↔ b < a) := by
  unfold zlcm
  by_cases h : b < a
  · rw [if_pos h]; constructor <;> intro q <;> omega
  · rw [if_neg h]
    by_cases h2 : a = b
    · rw [if_pos h2]; constructor <;> intro q <;> omega
    · rw [if_neg h2]; constructor <;> intro q <;> omega
theorem mTs_lt (h : mTs σ hm t L s) : s.1 ≤ L ∧ s.1 ≤ tbg t L s.1 ∧ tbg t L s.1 ≤ te t L s.1 ∧ te t L s.1 ≤ L ∧ (tk t L s.1 ≠ 0 → tbg t L s.1 < te t L s.1 ∧ tbg t L s.1 < L) := by
  have a := tbg_b (t := t) h.1
  have b := te_b (t := t) h.1
  exact ⟨h.1, a.1, b.1, b.2.1, b.2.2⟩
theorem tSg_m {c : Int} (hx : mTx σ A t L) (hq : s.1 ≤ L) (h0 : 0 ≤ c) (h1 : c < 128) : tSg t L c s ↔ s.2 = 0 ∧ tk t L s.1 = 3 ∧ t (tbg t L s.1) % 256 = c := by
  constructor
  · intro h
    have z := tKd_z (t := t) (L := L) (s := s) (by have := h.1; omega)
    have k : tk t L s.1 = 3 := by rw [← tKd_0 z]; exact h.1
    obtain ⟨a, _, c2, _⟩ := tk_3 k
    have := hx.b (tbg t L s.1) (by omega) (by omega)
    have e := h.2
    rw [c2] at e
    exact ⟨z, k, by omega⟩
  · intro h
    obtain ⟨z, k, e⟩ := h
    obtain ⟨a, _, c2, _⟩ := tk_3 k
    have := hx.b (tbg t L s.1) (by omega) (by omega)
    refine ⟨by rw [tKd_0 z]; exact k, ?_⟩
    rw [c2]; omega
/-- the value that the reference reads -/
def tuV (t : Int → Int) (L q : Nat) : Int := if tk t L q = 2 then tuN t (tbg t L q) (te t L q - tbg t L q) else 0
theorem tuV_b (h : s.1 ≤ L) : 0 ≤ tuV t L s.1 ∧ tuV t L s.1 ≤ 2000000000 := by
  unfold tuV
  by_cases k : tk t L s.1 = 2
  · rw [if_pos k]
    obtain ⟨_, _, _, dg⟩ := tk_2 h k
    have := (tuN_b (t := t) (b := tbg t L s.1) (n := te t L s.1 - tbg t L s.1) fun i a c => dg i a (by have := te_b (t := t) h; omega)).1
    exact this
  · rw [if_neg k]; omega
/-- both readings of a number say the same up to a million -/
theorem tuV_tv {lo hi : Int} (h : s.1 ≤ L) (k : tk t L s.1 = 2) (h0 : hi < 1000000) : (tv t L s.1 = tuV t L s.1) ∨ (hi < tv t L s.1 ∧ hi < tuV t L s.1 ∧ (lo ≤ hi → lo ≤ tv t L s.1 ∧ lo ≤ tuV t L s.1)) := by
  obtain ⟨_, _, e, dg⟩ := tk_2 h k
  unfold tuV
  rw [if_pos k, e]
  have := (tuN_b (t := t) (b := tbg t L s.1) (n := te t L s.1 - tbg t L s.1) fun i a c => dg i a (by have := te_b (t := t) h; omega)).2
  rcases this with q | q
  · exact Or.inl q.1
  · refine Or.inr ⟨by omega, by omega, fun hl => ⟨by omega, by omega⟩⟩
theorem tuN_step {b z : Nat} (h : b ≤ z) : min 2000000000 (10 * tuN t b (z - b) + t z - 48) = tuN t b (z + 1 - b) := by
  rw [show z + 1 - b = (z - b) + 1 by omega]
  show _ = min 2000000000 (10 * tuN t b (z - b) + t ((b + (z - b) : Nat) : Int) - 48)
  rw [show b + (z - b) = z by omega]
theorem zrgL_of {a : Int} (h : -9000000000000000000 ≤ a ∧ a ≤ 9000000000000000000) : zrgL a := by
  unfold zrgL; constructor <;> omega
theorem tWd_0 {w : List Int} (h : tWd t L w s) : s.2 = 0 := tKd_z (t := t) (L := L) (by have := h.1; omega)
theorem tSg_0 {c : Int} (h : tSg t L c s) : s.2 = 0 := tKd_z (t := t) (L := L) (by have := h.1; omega)
theorem zclL {a b : Int} (ha : zrgL a) (hb : zrgL b) : Int64.ofInt a < Int64.ofInt b ↔ a < b := by
  rw [Int64.lt_iff_toInt_lt, ztl ha, ztl hb]
variable {M : zMeth} {pc : Nat} {ls : List (Nat × zV)} {st : List zV} {Q : zRes → zMem → Prop}
theorem zF_minL (pc' : Nat) {idx d2 : Nat} {a b : Int} (hd : decode M.2.1 pc = .ok (.invokestatic idx, 3)) (hp : pc + 3 = pc') (hcl : zCL M.1.cls idx mJ9_min_f86c9 2) (hdd : d2 + 1 ≤ d) (ha : zrgL a) (hb : zrgL b) (hcat : (st.map zcat).sum ≤ 8) (k : zF G M d pc' ls (zL (min a b) :: st) σ Q) : zF G M d pc ls (zL b :: zL a :: st) σ Q := by
  subst hp
  refine zF_step rfl rfl rfl ?_ k
  intro ρ p e R s m args below meth c hC H locs cells slots lsA Qm hS hR1 hR2 kk
  have q := kk H locs lsA hS
  have hts := hC.2.2.2.2.1
  have hf := hC.2.2.2.2.2.2.2.2.2.1
  have hl := hC.2.2.2.2.2.2.2.2.2.2.1
  simp only [List.map_cons, ztr] at q ⊢
  refine va_mmin_long hC.1 hC.2.1 (by rw [hC.2.2.1, hS.2.2.1]) hC.2.2.2.1 (hts _ hcl.1) (hts _ sJ9_min_f86c9) (hts _ hcl.2.2.1) (hts _ hcl.2.1) (by rw [hf]; omega) (by rw [zcat_sum, hl]; omega) hR1 hR2 hd ?_
  have e : (if Int64.ofInt b < Int64.ofInt a then Int64.ofInt b else Int64.ofInt a) = Int64.ofInt (min a b) := by
    by_cases h : b < a
    · rw [if_pos ((zclL hb ha).mpr h), show min a b = b by omega]
    · rw [if_neg (mt (zclL hb ha).mp h), show min a b = a by omega]
  rw [e]
  exact q
theorem mTs_to {a b : tS} (h : mTs σ hm t L a) (e : a = b) : mTs σ hm t L b := e ▸ h
theorem zt_X12_flaw {c : Int} (hM : zMo σ hm A) (hx : mTx σ A t L) (hs : mTs σ hm t L s) (c0 : 0 < c) (c1 : c ≤ 99) : zE G mX12_flaw d [zR hm, zI c] σ (fun ro σ1 => ro = .inl none ∧ zFr (mPt hm) σ σ1 ∧ mTs σ1 hm t L (tFail c s)) := by
  refine zE_of rfl (by simp [zcat]) (Nat.le_of_ble_eq_true rfl) ?_
  show zF G mX12_flaw d 0 [(0, zR hm), (1, zI c)] [] σ _
  have hlt := mTs_lt hs
  have hl7 := hx.1
  have kb := tk_b t L s.1
  have eb := hs.2.2.2.2.2.2.2
  refine zF_aload_n 1 dX12_flaw_0 rfl rfl ?_
  refine zF_getI 4 dX12_flaw_1 rfl gX12_363 (by decide) (by decide) hM.1 hM.2.1 hs.2.2.2.2.2.1 ?_
  refine zF_if_ne 20 7 dX12_flaw_4 rfl rfl (by first | decide | assumption | exact mBy_rg | (constructor <;> omega)) (fun c1 => ?_) (fun c1 => ?_)
  · exact zF_return dX12_flaw_20 rfl ((by
    have e : tFail c s = s := if_neg (by omega)
    rw [e]
    exact ⟨rfl, zFr.rf, hs⟩))
  · refine zF_aload_n 8 dX12_flaw_7 rfl rfl ?_
    refine zF_iload_n 9 dX12_flaw_8 rfl rfl ?_
    refine zF_putI 12 dX12_flaw_9 rfl pX12_flaw_363 (Or.inl rfl) hM.1 hM.2.1 ?_
    refine zF_aload_n 13 dX12_flaw_12 rfl rfl ?_
    refine zF_aload_n 14 dX12_flaw_13 rfl rfl ?_
    refine zF_getI 17 dX12_flaw_14 rfl gX12_351 (by decide) (by decide) hM.1 hM.2.1 (zsi_F (by decide) hs.2.2.2.1) ?_
    refine zF_putI 20 dX12_flaw_17 rfl pX12_flaw_372 (Or.inl rfl) hM.1 hM.2.1 ?_
    exact zF_return dX12_flaw_20 rfl ((by
    have e : tFail c s = (s.1, c) := if_pos (by omega)
    rw [e]
    exact ⟨rfl, (zFr_si ⟨rfl, by decide, by decide⟩ (zFr_si ⟨rfl, by decide, by decide⟩ zFr.rf)), hs.1, (zsi_F (by decide) (zsi_F (by decide) hs.2.1)), (zsi_F (by decide) (zsi_F (by decide) hs.2.2.1)), (zsi_F (by decide) (zsi_F (by decide) hs.2.2.2.1)), (zsi_F (by decide) (zsi_F (by decide) hs.2.2.2.2.1)), (zsi_F (by decide) (zsi_same _ _ _ _)), fun _ => (zsi_same _ _ _ _), by show 0 ≤ c; omega, by show c ≤ 100; omega⟩))
theorem zt_X12_check {b c : Int} {P : Prop} [Decidable P] (hM : zMo σ hm A) (hx : mTx σ A t L) (hs : mTs σ hm t L s) (hb : b = zb P) (c0 : 0 < c) (c1 : c ≤ 99) : zE G mX12_check (d + 1) [zR hm, zI b, zI c] σ (fun ro σ1 => ro = .inl none ∧ zFr (mPt hm) σ σ1 ∧ mTs σ1 hm t L (if P then s else tFail c s)) := by
  refine zE_of rfl (by simp [zcat]) (Nat.le_of_ble_eq_true rfl) ?_
  show zF G mX12_check (d + 1) 0 [(0, zR hm), (1, zI b), (2, zI c)] [] σ _
  have hlt := mTs_lt hs
  have hl7 := hx.1
  have kb := tk_b t L s.1
  have eb := hs.2.2.2.2.2.2.2
  refine zF_iload_n 1 dX12_check_0 rfl rfl ?_
  refine zF_if_ne 9 4 dX12_check_1 rfl rfl (by first | decide | assumption | (rw [hb]; exact zb_rg _) | (constructor <;> omega)) (fun c1 => ?_) (fun c1 => ?_)
  · exact zF_return dX12_check_9 rfl ((by
    have hp : P := Decidable.byContradiction fun z => (by assumption : ¬ b = 0) (hb.trans (if_neg z))
    rw [if_pos hp]; exact ⟨rfl, zFr.rf, hs⟩))
  · refine zF_aload_n 5 dX12_check_4 rfl rfl ?_
    refine zF_iload_n 6 dX12_check_5 rfl rfl ?_
    refine zF_callV 9 (d2 := d) (as := [zI c]) dX12_check_6 rfl kX12_375 iX12_flaw (ci := 12) rfl eX12_flaw (Nat.le_refl _) hM.1 hM.2.1 rfl rfl (Nat.le_of_ble_eq_true rfl) (zE.mono (zt_X12_flaw (σ := σ) (c := c) hM hx hs (by omega) (by omega)) fun ro σa1 hh1 => ?_)
    obtain ⟨er1, fr1, p1⟩ := hh1
    subst er1
    refine ⟨fr1.1, ?_⟩
    show zF G mX12_check (d + 1) 9 [(0, zR hm), (1, zI b), (2, zI c)] [] σa1 _
    have hMa1 := zMo_f2 (σ := σ) fr1 hM
    have hxa1 := mTx_t (σ := σ) hM hx fr1
    have hs1a : mTs σa1 hm t L (tFail c s) := p1
    exact zF_return dX12_check_9 rfl ((by
    have hp : ¬ P := fun z => by have z2 : zb P = 1 := if_pos z; omega
    rw [if_neg hp]; exact ⟨rfl, fr1, hs1a⟩))
theorem zt_X12_advance  (hM : zMo σ hm A) (hx : mTx σ A t L) (hs : mTs σ hm t L s) : zE G mX12_advance (d + 3) [zR hm] σ (fun ro σ1 => ro = .inl none ∧ zFr (mPt hm) σ σ1 ∧ mTs σ1 hm t L (tAdv t L s)) := by
  refine zE_of rfl (by simp [zcat]) (Nat.le_of_ble_eq_true rfl) ?_
  show zF G mX12_advance (d + 3) 0 [(0, zR hm)] [] σ _
  have hlt := mTs_lt hs
  have hl7 := hx.1
  have kb := tk_b t L s.1
  have eb := hs.2.2.2.2.2.2.2
  refine zF_aload_n 1 dX12_advance_0 rfl rfl ?_
  refine zF_getI 4 dX12_advance_1 rfl gX12_363 (by decide) (by decide) hM.1 hM.2.1 hs.2.2.2.2.2.1 ?_
  refine zF_if_ne 11 7 dX12_advance_4 rfl rfl (by first | decide | assumption | exact mBy_rg | (constructor <;> omega)) (fun c1 => ?_) (fun c1 => ?_)
  · exact zF_return dX12_advance_11 rfl ((by
    have e : tAdv t L s = s := if_neg (by omega)
    rw [e]
    exact ⟨rfl, zFr.rf, hs⟩))
  · refine zF_aload_n 8 dX12_advance_7 rfl rfl ?_
    refine zF_callV 11 (d2 := (d + 2)) (as := []) dX12_advance_8 rfl kX12_369 iX12_scan (ci := 12) rfl eX12_scan (Nat.le_refl _) hM.1 hM.2.1 rfl rfl (Nat.le_of_ble_eq_true rfl) (zE.mono (zt_X12_scan (σ := σ) (q := te t L s.1) hM hx hs.2.1 (by omega) hs.2.2.1) fun ro σa1 hh1 => ?_)
    obtain ⟨er1, fr1, p1⟩ := hh1
    subst er1
    refine ⟨fr1.1, ?_⟩
    show zF G mX12_advance (d + 3) 11 [(0, zR hm)] [] σa1 _
    have hMa1 := zMo_f2 fr1 hM
    have hxa1 := mTx_s hM hx fr1
    have hs1a : mTs σa1 hm t L (te t L s.1, 0) := ⟨by show te t L s.1 ≤ L; omega, mPs_o fr1 (by omega) hs.2.1, p1.1, p1.2.1, p1.2.2, mPs_o fr1 (by omega) (hs.2.2.2.2.2.1.trans (by first | assumption | omega)), fun z => absurd rfl z, by show (0 : Int) ≤ 0; decide, by show (0 : Int) ≤ 100; decide⟩
    exact zF_return dX12_advance_11 rfl ((by
    have e : tAdv t L s = (te t L s.1, 0) := if_pos (by omega)
    rw [e]
    exact ⟨rfl, (mPs_t fr1), hs1a⟩))
theorem zt_X12_isSymbol {c : Int} (hM : zMo σ hm A) (hx : mTx σ A t L) (hs : mTs σ hm t L s) (h0 : 0 ≤ c) (h1 : c < 128) : zP1 G mX12_isSymbol d [zR hm, zI c] σ (zb (tSg t L c s)) := by
  refine zE_of rfl (by simp [zcat]) (Nat.le_of_ble_eq_true rfl) ?_
  show zF G mX12_isSymbol d 0 [(0, zR hm), (1, zI c)] [] σ _
  have hlt := mTs_lt hs
  have hl7 := hx.1
  have kb := tk_b t L s.1
  have eb := hs.2.2.2.2.2.2.2
  refine zF_aload_n 1 dX12_isSymbol_0 rfl rfl ?_
  refine zF_getI 4 dX12_isSymbol_1 rfl gX12_363 (by decide) (by decide) hM.1 hM.2.1 hs.2.2.2.2.2.1 ?_
  refine zF_if_ne 32 7 dX12_isSymbol_4 rfl rfl (by first | decide | assumption | exact mBy_rg | (constructor <;> omega)) (fun c1 => ?_) (fun c1 => ?_)
  · refine zF_iconst 33 dX12_isSymbol_32 rfl ?_
    exact zF_zretP dX12_isSymbol_33 rfl (by decide) (by first | exact zbT ((tSg_m hx hs.1 h0 h1).mpr ⟨by omega, by omega, by omega⟩) | exact zbF (fun z => by have := (tSg_m hx hs.1 h0 h1).mp z; omega))
  · refine zF_aload_n 8 dX12_isSymbol_7 rfl rfl ?_
    refine zF_getI 11 dX12_isSymbol_8 rfl gX12_354 (by decide) (by decide) hM.1 hM.2.1 hs.2.2.2.2.1 ?_
    refine zF_iconst 12 dX12_isSymbol_11 rfl ?_
    refine zF_icmp_ne 32 15 dX12_isSymbol_12 rfl rfl (by first | decide | assumption | exact mBy_rg | (constructor <;> omega)) (by first | decide | assumption | exact mBy_rg | (constructor <;> omega)) (fun c2 => ?_) (fun c2 => ?_)
    · refine zF_iconst 33 dX12_isSymbol_32 rfl ?_
      exact zF_zretP dX12_isSymbol_33 rfl (by decide) (by first | exact zbT ((tSg_m hx hs.1 h0 h1).mpr ⟨by omega, by omega, by omega⟩) | exact zbF (fun z => by have := (tSg_m hx hs.1 h0 h1).mp z; omega))
    · refine zF_aload_n 16 dX12_isSymbol_15 rfl rfl ?_
      refine zF_getR 19 dX12_isSymbol_16 rfl gX12_47 hM.1 hM.2.1 (zM_18 hM).1 ?_
      refine zF_aload_n 20 dX12_isSymbol_19 rfl rfl ?_
      refine zF_getI 23 dX12_isSymbol_20 rfl gX12_351 (by decide) (by decide) hM.1 hM.2.1 hs.2.2.2.1 ?_
      refine zF_iaload 24 dX12_isSymbol_23 rfl (zM_18 hM).2.2 (zM_18 hM).2.1 (by omega) (by omega) (hx.2 _ (by omega) (by omega)).1 ?_
      refine zF_iload_n 25 dX12_isSymbol_24 rfl rfl ?_
      refine zF_icmp_ne 32 28 dX12_isSymbol_25 rfl rfl (by first | decide | assumption | exact mBy_rg | (constructor <;> omega)) (by first | decide | assumption | exact mBy_rg | (constructor <;> omega)) (fun c3 => ?_) (fun c3 => ?_)
      · refine zF_iconst 33 dX12_isSymbol_32 rfl ?_
        exact zF_zretP dX12_isSymbol_33 rfl (by decide) (by first | exact zbT ((tSg_m hx hs.1 h0 h1).mpr ⟨by omega, by omega, by omega⟩) | exact zbF (fun z => by have := (tSg_m hx hs.1 h0 h1).mp z; omega))
      · refine zF_iconst 29 dX12_isSymbol_28 rfl ?_
        refine zF_goto 33 dX12_isSymbol_29 rfl ?_
        exact zF_zretP dX12_isSymbol_33 rfl (by decide) (by first | exact zbT ((tSg_m hx hs.1 h0 h1).mpr ⟨by omega, by omega, by omega⟩) | exact zbF (fun z => by have := (tSg_m hx hs.1 h0 h1).mp z; omega))
theorem zt_X12_isWord {i : Nat} (hM : zMo σ hm A) (hx : mTx σ A t L) (hs : mTs σ hm t L s) (hG : zOS G) (hi : i < 59) : zP1 G mX12_isWord (d + 4) [zR hm, zR (zbg + i)] σ (zb (tWd t L (zsbi i) s)) := by
  refine zE_of rfl (by simp [zcat]) (Nat.le_of_ble_eq_true rfl) ?_
  show zF G mX12_isWord (d + 4) 0 [(0, zR hm), (1, zR (zbg + i))] [] σ _
  have hlt := mTs_lt hs
  have hl7 := hx.1
  have kb := tk_b t L s.1
  have eb := hs.2.2.2.2.2.2.2
  have zl := zsl_b i hi
  refine zF_aload_n 1 dX12_isWord_0 rfl rfl ?_
  refine zF_getI 4 dX12_isWord_1 rfl gX12_363 (by decide) (by decide) hM.1 hM.2.1 hs.2.2.2.2.2.1 ?_
  refine zF_if_ne 35 7 dX12_isWord_4 rfl rfl (by first | decide | assumption | (constructor <;> omega)) (fun c1 => ?_) (fun c1 => ?_)
  · refine zF_iconst 36 dX12_isWord_35 rfl ?_
    refine zF_istore_n 37 (ls' := [(2, zI 0), (0, zR hm), (1, zR (zbg + i))]) dX12_isWord_36 rfl (by decide) rfl ?_
    refine zF_iconst 38 dX12_isWord_37 rfl ?_
    refine zF_istore_n 39 (ls' := [(3, zI 0), (2, zI 0), (0, zR hm), (1, zR (zbg + i))]) dX12_isWord_38 rfl (by decide) rfl ?_
    refine zF_locs (ls' := [(2, zI 0), (3, zI ((0 : Nat) : Int)), (0, zR hm), (1, zR (zbg + i))]) ⟨rfl, zlI rfl (by first | rfl | omega | (push_cast; omega) | exact congrArg (_ + ·) (zbT (by assumption)) | exact congrArg (_ + ·) (zbF (by assumption)) | exact congrArg (_ + ·) (zbT (by omega)) | exact congrArg (_ + ·) (zbF (by omega)) | exact congrArg (_ + ·) (if_pos (by omega)).symm | exact congrArg (_ + ·) (if_neg (by omega)).symm | exact (if_pos (by omega)).symm | exact (if_neg (by omega)).symm | exact zsub_s (if_pos (by omega)).symm | exact zsub_s0 (if_neg (by omega)).symm | exact zadd0 (if_neg (by omega)).symm | exact zadd0 (zbF (by omega)) | exact (Int.sub_zero _).symm), rfl, rfl, trivial⟩ ?_
    refine zF_while (X := Nat × Int) (fun y => zsl i - y.1) (fun y σ2 => y.1 ≤ zsl i ∧ σ2 = σ ∧ ((y.2 = 1 ∧ (s.2 = 0 ∧ tk t L s.1 = 1) ∧ te t L s.1 - tbg t L s.1 = zsl i ∧ ∀ k : Nat, k < y.1 → t ((tbg t L s.1 + k : Nat) : Int) = zsc i k) ∨ (y.2 = 0 ∧ ¬ tWd t L (zsbi i) s))) (fun y => [(2, zI y.2), (3, zI ((y.1 : Nat) : Int)), (0, zR hm), (1, zR (zbg + i))]) ?_ (0, 0) σ (⟨Nat.zero_le _, rfl, Or.inr ⟨rfl, fun z => by have z1 := z.1; have z3 := tKd_z (t := t) (L := L) (s := s) (by omega); have z4 := tKd_0 (t := t) (L := L) z3; have z2 : te t L s.1 - tbg t L s.1 = zsl i := z.2.1; omega⟩⟩)
    intro ⟨x, f⟩ σ2 hI39 ih39
    show zF G mX12_isWord (d + 4) 39 [(2, zI f), (3, zI ((x : Nat) : Int)), (0, zR hm), (1, zR (zbg + i))] [] σ2 _
    obtain ⟨hx1, e2, hI⟩ := hI39
    replace hx1 : x ≤ zsl i := hx1
    subst e2
    replace hI : (f = 1 ∧ (s.2 = 0 ∧ tk t L s.1 = 1) ∧ te t L s.1 - tbg t L s.1 = zsl i ∧ ∀ k : Nat, k < x → t ((tbg t L s.1 + k : Nat) : Int) = zsc i k) ∨ (f = 0 ∧ ¬ tWd t L (zsbi i) s) := hI
    have hf : zrg f := by rcases hI with h | h <;> rw [h.1] <;> decide
    refine zF_iload_n 40 dX12_isWord_39 rfl rfl ?_
    refine zF_if_eq 82 43 dX12_isWord_40 rfl rfl (by first | decide | assumption | (constructor <;> omega)) (fun c2 => ?_) (fun c2 => ?_)
    · refine zF_iload_n 83 dX12_isWord_82 rfl rfl ?_
      exact zF_zretP dX12_isWord_83 rfl (by omega) ((by
    rcases hI with ⟨e1, h9, h8, h7⟩ | ⟨e1, h9⟩
    · rw [e1]; exact zbT ⟨by rw [tKd_0 h9.1]; exact h9.2, h8, fun k hk => h7 k (by have hk2 : k < zsl i := hk; omega)⟩
    · rw [e1]; exact zbF h9))
    · refine zF_iload_n 44 dX12_isWord_43 rfl rfl ?_
      refine zF_aload_n 45 dX12_isWord_44 rfl rfl ?_
      refine zF_callOi 48 (d2 := (d + 3)) (as := []) dX12_isWord_45 rfl kX12_321 iJ0_length_8abf5 (hG.1 i hi).1 eJ0_length_8abf5 (Nat.le_refl _) rfl rfl (Nat.le_of_ble_eq_true rfl) (zt_J0_length hG hi) ?_
      refine zF_icmp_ge 82 51 dX12_isWord_48 rfl rfl (by first | decide | assumption | (constructor <;> omega)) (by first | decide | assumption | (constructor <;> omega)) (fun c3 => ?_) (fun c3 => ?_)
      · refine zF_iload_n 83 dX12_isWord_82 rfl rfl ?_
        exact zF_zretP dX12_isWord_83 rfl (by omega) ((by
    rcases hI with ⟨e1, h9, h8, h7⟩ | ⟨e1, h9⟩
    · rw [e1]; exact zbT ⟨by rw [tKd_0 h9.1]; exact h9.2, h8, fun k hk => h7 k (by have hk2 : k < zsl i := hk; omega)⟩
    · rw [e1]; exact zbF h9))
      · have hh := hI.resolve_right (fun z => by omega)
        replace hh := hh.2
        have tq := hx.b (tbg t L s.1 + x : Nat) (by omega) (by omega)
        have zc := zsc_b i hi x (by omega)
        have ej : ((tbg t L s.1 + x : Nat) : Int) = (tbg t L s.1 : Int) + (x : Int) := by push_cast; rfl
        have ej2 := congrArg t ej
        rw [ej] at tq
        refine zF_aload_n 52 dX12_isWord_51 rfl rfl ?_
        refine zF_iload_n 53 dX12_isWord_52 rfl rfl ?_
        refine zF_callOi 56 (d2 := (d + 3)) (as := [zI ((x : Nat) : Int)]) dX12_isWord_53 rfl kX12_324 iJ0_charAt_5068e (hG.1 i hi).1 eJ0_charAt_5068e (Nat.le_refl _) rfl rfl (Nat.le_of_ble_eq_true rfl) (zt_J0_charAt hG hi (k := x) (by omega)) ?_
        refine zF_aload_n 57 dX12_isWord_56 rfl rfl ?_
        refine zF_getR 60 dX12_isWord_57 rfl gX12_47 hM.1 hM.2.1 (zM_18 hM).1 ?_
        refine zF_aload_n 61 dX12_isWord_60 rfl rfl ?_
        refine zF_getI 64 dX12_isWord_61 rfl gX12_351 (by decide) (by decide) hM.1 hM.2.1 hs.2.2.2.1 ?_
        refine zF_iload_n 65 dX12_isWord_64 rfl rfl ?_
        refine zF_iadd 66 dX12_isWord_65 rfl ?_
        refine zF_iaload 67 dX12_isWord_66 rfl (zM_18 hM).2.2 (zM_18 hM).2.1 (by omega) (by omega) (hx.2 _ (by omega) (by omega)).1 ?_
        refine zF_icmp_ne 74 70 dX12_isWord_67 rfl rfl (by first | decide | assumption | (constructor <;> omega)) (by first | decide | assumption | (constructor <;> omega)) (fun c4 => ?_) (fun c4 => ?_)
        · refine zF_iconst 75 dX12_isWord_74 rfl ?_
          refine zF_istore_n 76 (ls' := [(2, zI 0), (3, zI ((x : Nat) : Int)), (0, zR hm), (1, zR (zbg + i))]) dX12_isWord_75 rfl (by decide) rfl ?_
          refine zF_iinc 79 (ls' := [(3, zI (((x : Nat) : Int) + 1)), (2, zI 0), (0, zR hm), (1, zR (zbg + i))]) dX12_isWord_76 rfl rfl rfl (by decide) rfl ?_
          refine zF_goto 39 dX12_isWord_79 rfl ?_
          exact zF_locs (ls' := [(2, zI 0), (3, zI (((x + 1) : Nat) : Int)), (0, zR hm), (1, zR (zbg + i))]) ⟨rfl, zlI rfl (by first | rfl | omega | (push_cast; omega) | exact congrArg (_ + ·) (zbT (by assumption)) | exact congrArg (_ + ·) (zbF (by assumption)) | exact congrArg (_ + ·) (zbT (by omega)) | exact congrArg (_ + ·) (zbF (by omega)) | exact congrArg (_ + ·) (if_pos (by omega)).symm | exact congrArg (_ + ·) (if_neg (by omega)).symm | exact (if_pos (by omega)).symm | exact (if_neg (by omega)).symm | exact zsub_s (if_pos (by omega)).symm | exact zsub_s0 (if_neg (by omega)).symm | exact zadd0 (if_neg (by omega)).symm | exact zadd0 (zbF (by omega)) | exact (Int.sub_zero _).symm), rfl, rfl, trivial⟩ (ih39 ((x + 1), 0) _ (by omega) (⟨by show x + 1 ≤ zsl i; omega, rfl, Or.inr ⟨rfl, fun z => by have z3 : t ((tbg t L s.1 + x : Nat) : Int) = zsc i x := z.2.2 x (by omega); omega⟩⟩))
        · refine zF_iconst 71 dX12_isWord_70 rfl ?_
          refine zF_goto 75 dX12_isWord_71 rfl ?_
          refine zF_istore_n 76 (ls' := [(2, zI 1), (3, zI ((x : Nat) : Int)), (0, zR hm), (1, zR (zbg + i))]) dX12_isWord_75 rfl (by decide) rfl ?_
          refine zF_iinc 79 (ls' := [(3, zI (((x : Nat) : Int) + 1)), (2, zI 1), (0, zR hm), (1, zR (zbg + i))]) dX12_isWord_76 rfl rfl rfl (by decide) rfl ?_
          refine zF_goto 39 dX12_isWord_79 rfl ?_
          exact zF_locs (ls' := [(2, zI 1), (3, zI (((x + 1) : Nat) : Int)), (0, zR hm), (1, zR (zbg + i))]) ⟨rfl, zlI rfl (by first | rfl | omega | (push_cast; omega) | exact congrArg (_ + ·) (zbT (by assumption)) | exact congrArg (_ + ·) (zbF (by assumption)) | exact congrArg (_ + ·) (zbT (by omega)) | exact congrArg (_ + ·) (zbF (by omega)) | exact congrArg (_ + ·) (if_pos (by omega)).symm | exact congrArg (_ + ·) (if_neg (by omega)).symm | exact (if_pos (by omega)).symm | exact (if_neg (by omega)).symm | exact zsub_s (if_pos (by omega)).symm | exact zsub_s0 (if_neg (by omega)).symm | exact zadd0 (if_neg (by omega)).symm | exact zadd0 (zbF (by omega)) | exact (Int.sub_zero _).symm), rfl, rfl, trivial⟩ (ih39 ((x + 1), 1) _ (by omega) (⟨by show x + 1 ≤ zsl i; omega, rfl, Or.inl ⟨rfl, hh.1, hh.2.1, fun k hk => by
          by_cases e : k = x
          · subst e; omega
          · exact hh.2.2 k (by have hk2 : k < x + 1 := hk; omega)⟩⟩))
  · refine zF_aload_n 8 dX12_isWord_7 rfl rfl ?_
    refine zF_getI 11 dX12_isWord_8 rfl gX12_354 (by decide) (by decide) hM.1 hM.2.1 hs.2.2.2.2.1 ?_
    refine zF_iconst 12 dX12_isWord_11 rfl ?_
    refine zF_icmp_ne 35 15 dX12_isWord_12 rfl rfl (by first | decide | assumption | (constructor <;> omega)) (by first | decide | assumption | (constructor <;> omega)) (fun c5 => ?_) (fun c5 => ?_)
    · refine zF_iconst 36 dX12_isWord_35 rfl ?_
      refine zF_istore_n 37 (ls' := [(2, zI 0), (0, zR hm), (1, zR (zbg + i))]) dX12_isWord_36 rfl (by decide) rfl ?_
      refine zF_iconst 38 dX12_isWord_37 rfl ?_
      refine zF_istore_n 39 (ls' := [(3, zI 0), (2, zI 0), (0, zR hm), (1, zR (zbg + i))]) dX12_isWord_38 rfl (by decide) rfl ?_
      refine zF_locs (ls' := [(2, zI 0), (3, zI ((0 : Nat) : Int)), (0, zR hm), (1, zR (zbg + i))]) ⟨rfl, zlI rfl (by first | rfl | omega | (push_cast; omega) | exact congrArg (_ + ·) (zbT (by assumption)) | exact congrArg (_ + ·) (zbF (by assumption)) | exact congrArg (_ + ·) (zbT (by omega)) | exact congrArg (_ + ·) (zbF (by omega)) | exact congrArg (_ + ·) (if_pos (by omega)).symm | exact congrArg (_ + ·) (if_neg (by omega)).symm | exact (if_pos (by omega)).symm | exact (if_neg (by omega)).symm | exact zsub_s (if_pos (by omega)).symm | exact zsub_s0 (if_neg (by omega)).symm | exact zadd0 (if_neg (by omega)).symm | exact zadd0 (zbF (by omega)) | exact (Int.sub_zero _).symm), rfl, rfl, trivial⟩ ?_
      refine zF_while (X := Nat × Int) (fun y => zsl i - y.1) (fun y σ2 => y.1 ≤ zsl i ∧ σ2 = σ ∧ ((y.2 = 1 ∧ (s.2 = 0 ∧ tk t L s.1 = 1) ∧ te t L s.1 - tbg t L s.1 = zsl i ∧ ∀ k : Nat, k < y.1 → t ((tbg t L s.1 + k : Nat) : Int) = zsc i k) ∨ (y.2 = 0 ∧ ¬ tWd t L (zsbi i) s))) (fun y => [(2, zI y.2), (3, zI ((y.1 : Nat) : Int)), (0, zR hm), (1, zR (zbg + i))]) ?_ (0, 0) σ (⟨Nat.zero_le _, rfl, Or.inr ⟨rfl, fun z => by have z1 := z.1; have z3 := tKd_z (t := t) (L := L) (s := s) (by omega); have z4 := tKd_0 (t := t) (L := L) z3; have z2 : te t L s.1 - tbg t L s.1 = zsl i := z.2.1; omega⟩⟩)
      intro ⟨x, f⟩ σ2 hI39 ih39
      show zF G mX12_isWord (d + 4) 39 [(2, zI f), (3, zI ((x : Nat) : Int)), (0, zR hm), (1, zR (zbg + i))] [] σ2 _
      obtain ⟨hx1, e2, hI⟩ := hI39
      replace hx1 : x ≤ zsl i := hx1
      subst e2
      replace hI : (f = 1 ∧ (s.2 = 0 ∧ tk t L s.1 = 1) ∧ te t L s.1 - tbg t L s.1 = zsl i ∧ ∀ k : Nat, k < x → t ((tbg t L s.1 + k : Nat) : Int) = zsc i k) ∨ (f = 0 ∧ ¬ tWd t L (zsbi i) s) := hI
      have hf : zrg f := by rcases hI with h | h <;> rw [h.1] <;> decide
      refine zF_iload_n 40 dX12_isWord_39 rfl rfl ?_
      refine zF_if_eq 82 43 dX12_isWord_40 rfl rfl (by first | decide | assumption | (constructor <;> omega)) (fun c6 => ?_) (fun c6 => ?_)
      · refine zF_iload_n 83 dX12_isWord_82 rfl rfl ?_
        exact zF_zretP dX12_isWord_83 rfl (by omega) ((by
    rcases hI with ⟨e1, h9, h8, h7⟩ | ⟨e1, h9⟩
    · rw [e1]; exact zbT ⟨by rw [tKd_0 h9.1]; exact h9.2, h8, fun k hk => h7 k (by have hk2 : k < zsl i := hk; omega)⟩
    · rw [e1]; exact zbF h9))
      · refine zF_iload_n 44 dX12_isWord_43 rfl rfl ?_
        refine zF_aload_n 45 dX12_isWord_44 rfl rfl ?_
        refine zF_callOi 48 (d2 := (d + 3)) (as := []) dX12_isWord_45 rfl kX12_321 iJ0_length_8abf5 (hG.1 i hi).1 eJ0_length_8abf5 (Nat.le_refl _) rfl rfl (Nat.le_of_ble_eq_true rfl) (zt_J0_length hG hi) ?_
        refine zF_icmp_ge 82 51 dX12_isWord_48 rfl rfl (by first | decide | assumption | (constructor <;> omega)) (by first | decide | assumption | (constructor <;> omega)) (fun c7 => ?_) (fun c7 => ?_)
        · refine zF_iload_n 83 dX12_isWord_82 rfl rfl ?_
          exact zF_zretP dX12_isWord_83 rfl (by omega) ((by
    rcases hI with ⟨e1, h9, h8, h7⟩ | ⟨e1, h9⟩
    · rw [e1]; exact zbT ⟨by rw [tKd_0 h9.1]; exact h9.2, h8, fun k hk => h7 k (by have hk2 : k < zsl i := hk; omega)⟩
    · rw [e1]; exact zbF h9))
        · have hh := hI.resolve_right (fun z => by omega)
          replace hh := hh.2
          have tq := hx.b (tbg t L s.1 + x : Nat) (by omega) (by omega)
          have zc := zsc_b i hi x (by omega)
          have ej : ((tbg t L s.1 + x : Nat) : Int) = (tbg t L s.1 : Int) + (x : Int) := by push_cast; rfl
          have ej2 := congrArg t ej
          rw [ej] at tq
          refine zF_aload_n 52 dX12_isWord_51 rfl rfl ?_
          refine zF_iload_n 53 dX12_isWord_52 rfl rfl ?_
          refine zF_callOi 56 (d2 := (d + 3)) (as := [zI ((x : Nat) : Int)]) dX12_isWord_53 rfl kX12_324 iJ0_charAt_5068e (hG.1 i hi).1 eJ0_charAt_5068e (Nat.le_refl _) rfl rfl (Nat.le_of_ble_eq_true rfl) (zt_J0_charAt hG hi (k := x) (by omega)) ?_
          refine zF_aload_n 57 dX12_isWord_56 rfl rfl ?_
          refine zF_getR 60 dX12_isWord_57 rfl gX12_47 hM.1 hM.2.1 (zM_18 hM).1 ?_
          refine zF_aload_n 61 dX12_isWord_60 rfl rfl ?_
          refine zF_getI 64 dX12_isWord_61 rfl gX12_351 (by decide) (by decide) hM.1 hM.2.1 hs.2.2.2.1 ?_
          refine zF_iload_n 65 dX12_isWord_64 rfl rfl ?_
          refine zF_iadd 66 dX12_isWord_65 rfl ?_
          refine zF_iaload 67 dX12_isWord_66 rfl (zM_18 hM).2.2 (zM_18 hM).2.1 (by omega) (by omega) (hx.2 _ (by omega) (by omega)).1 ?_
          refine zF_icmp_ne 74 70 dX12_isWord_67 rfl rfl (by first | decide | assumption | (constructor <;> omega)) (by first | decide | assumption | (constructor <;> omega)) (fun c8 => ?_) (fun c8 => ?_)
          · refine zF_iconst 75 dX12_isWord_74 rfl ?_
            refine zF_istore_n 76 (ls' := [(2, zI 0), (3, zI ((x : Nat) : Int)), (0, zR hm), (1, zR (zbg + i))]) dX12_isWord_75 rfl (by decide) rfl ?_
            refine zF_iinc 79 (ls' := [(3, zI (((x : Nat) : Int) + 1)), (2, zI 0), (0, zR hm), (1, zR (zbg + i))]) dX12_isWord_76 rfl rfl rfl (by decide) rfl ?_
            refine zF_goto 39 dX12_isWord_79 rfl ?_
            exact zF_locs (ls' := [(2, zI 0), (3, zI (((x + 1) : Nat) : Int)), (0, zR hm), (1, zR (zbg + i))]) ⟨rfl, zlI rfl (by first | rfl | omega | (push_cast; omega) | exact congrArg (_ + ·) (zbT (by assumption)) | exact congrArg (_ + ·) (zbF (by assumption)) | exact congrArg (_ + ·) (zbT (by omega)) | exact congrArg (_ + ·) (zbF (by omega)) | exact congrArg (_ + ·) (if_pos (by omega)).symm | exact congrArg (_ + ·) (if_neg (by omega)).symm | exact (if_pos (by omega)).symm | exact (if_neg (by omega)).symm | exact zsub_s (if_pos (by omega)).symm | exact zsub_s0 (if_neg (by omega)).symm | exact zadd0 (if_neg (by omega)).symm | exact zadd0 (zbF (by omega)) | exact (Int.sub_zero _).symm), rfl, rfl, trivial⟩ (ih39 ((x + 1), 0) _ (by omega) (⟨by show x + 1 ≤ zsl i; omega, rfl, Or.inr ⟨rfl, fun z => by have z3 : t ((tbg t L s.1 + x : Nat) : Int) = zsc i x := z.2.2 x (by omega); omega⟩⟩))
          · refine zF_iconst 71 dX12_isWord_70 rfl ?_
            refine zF_goto 75 dX12_isWord_71 rfl ?_
            refine zF_istore_n 76 (ls' := [(2, zI 1), (3, zI ((x : Nat) : Int)), (0, zR hm), (1, zR (zbg + i))]) dX12_isWord_75 rfl (by decide) rfl ?_
            refine zF_iinc 79 (ls' := [(3, zI (((x : Nat) : Int) + 1)), (2, zI 1), (0, zR hm), (1, zR (zbg + i))]) dX12_isWord_76 rfl rfl rfl (by decide) rfl ?_
            refine zF_goto 39 dX12_isWord_79 rfl ?_
            exact zF_locs (ls' := [(2, zI 1), (3, zI (((x + 1) : Nat) : Int)), (0, zR hm), (1, zR (zbg + i))]) ⟨rfl, zlI rfl (by first | rfl | omega | (push_cast; omega) | exact congrArg (_ + ·) (zbT (by assumption)) | exact congrArg (_ + ·) (zbF (by assumption)) | exact congrArg (_ + ·) (zbT (by omega)) | exact congrArg (_ + ·) (zbF (by omega)) | exact congrArg (_ + ·) (if_pos (by omega)).symm | exact congrArg (_ + ·) (if_neg (by omega)).symm | exact (if_pos (by omega)).symm | exact (if_neg (by omega)).symm | exact zsub_s (if_pos (by omega)).symm | exact zsub_s0 (if_neg (by omega)).symm | exact zadd0 (if_neg (by omega)).symm | exact zadd0 (zbF (by omega)) | exact (Int.sub_zero _).symm), rfl, rfl, trivial⟩ (ih39 ((x + 1), 1) _ (by omega) (⟨by show x + 1 ≤ zsl i; omega, rfl, Or.inl ⟨rfl, hh.1, hh.2.1, fun k hk => by
          by_cases e : k = x
          · subst e; omega
          · exact hh.2.2 k (by have hk2 : k < x + 1 := hk; omega)⟩⟩))
    · refine zF_aload_n 16 dX12_isWord_15 rfl rfl ?_
      refine zF_callOi 19 (d2 := (d + 3)) (as := []) dX12_isWord_16 rfl kX12_321 iJ0_length_8abf5 (hG.1 i hi).1 eJ0_length_8abf5 (Nat.le_refl _) rfl rfl (Nat.le_of_ble_eq_true rfl) (zt_J0_length hG hi) ?_
      refine zF_aload_n 20 dX12_isWord_19 rfl rfl ?_
      refine zF_getI 23 dX12_isWord_20 rfl gX12_348 (by decide) (by decide) hM.1 hM.2.1 hs.2.2.1 ?_
      refine zF_aload_n 24 dX12_isWord_23 rfl rfl ?_
      refine zF_getI 27 dX12_isWord_24 rfl gX12_351 (by decide) (by decide) hM.1 hM.2.1 hs.2.2.2.1 ?_
      refine zF_isub 28 dX12_isWord_27 rfl ?_
      refine zF_icmp_ne 35 31 dX12_isWord_28 rfl rfl (by first | decide | assumption | (constructor <;> omega)) (by first | decide | assumption | (constructor <;> omega)) (fun c9 => ?_) (fun c9 => ?_)
      · refine zF_iconst 36 dX12_isWord_35 rfl ?_
        refine zF_istore_n 37 (ls' := [(2, zI 0), (0, zR hm), (1, zR (zbg + i))]) dX12_isWord_36 rfl (by decide) rfl ?_
        refine zF_iconst 38 dX12_isWord_37 rfl ?_
        refine zF_istore_n 39 (ls' := [(3, zI 0), (2, zI 0), (0, zR hm), (1, zR (zbg + i))]) dX12_isWord_38 rfl (by decide) rfl ?_
        refine zF_locs (ls' := [(2, zI 0), (3, zI ((0 : Nat) : Int)), (0, zR hm), (1, zR (zbg + i))]) ⟨rfl, zlI rfl (by first | rfl | omega | (push_cast; omega) | exact congrArg (_ + ·) (zbT (by assumption)) | exact congrArg (_ + ·) (zbF (by assumption)) | exact congrArg (_ + ·) (zbT (by omega)) | exact congrArg (_ + ·) (zbF (by omega)) | exact congrArg (_ + ·) (if_pos (by omega)).symm | exact congrArg (_ + ·) (if_neg (by omega)).symm | exact (if_pos (by omega)).symm | exact (if_neg (by omega)).symm | exact zsub_s (if_pos (by omega)).symm | exact zsub_s0 (if_neg (by omega)).symm | exact zadd0 (if_neg (by omega)).symm | exact zadd0 (zbF (by omega)) | exact (Int.sub_zero _).symm), rfl, rfl, trivial⟩ ?_
        refine zF_while (X := Nat × Int) (fun y => zsl i - y.1) (fun y σ2 => y.1 ≤ zsl i ∧ σ2 = σ ∧ ((y.2 = 1 ∧ (s.2 = 0 ∧ tk t L s.1 = 1) ∧ te t L s.1 - tbg t L s.1 = zsl i ∧ ∀ k : Nat, k < y.1 → t ((tbg t L s.1 + k : Nat) : Int) = zsc i k) ∨ (y.2 = 0 ∧ ¬ tWd t L (zsbi i) s))) (fun y => [(2, zI y.2), (3, zI ((y.1 : Nat) : Int)), (0, zR hm), (1, zR (zbg + i))]) ?_ (0, 0) σ (⟨Nat.zero_le _, rfl, Or.inr ⟨rfl, fun z => by have z1 := z.1; have z3 := tKd_z (t := t) (L := L) (s := s) (by omega); have z4 := tKd_0 (t := t) (L := L) z3; have z2 : te t L s.1 - tbg t L s.1 = zsl i := z.2.1; omega⟩⟩)
        intro ⟨x, f⟩ σ2 hI39 ih39
        show zF G mX12_isWord (d + 4) 39 [(2, zI f), (3, zI ((x : Nat) : Int)), (0, zR hm), (1, zR (zbg + i))] [] σ2 _
        obtain ⟨hx1, e2, hI⟩ := hI39
        replace hx1 : x ≤ zsl i := hx1
        subst e2
        replace hI : (f = 1 ∧ (s.2 = 0 ∧ tk t L s.1 = 1) ∧ te t L s.1 - tbg t L s.1 = zsl i ∧ ∀ k : Nat, k < x → t ((tbg t L s.1 + k : Nat) : Int) = zsc i k) ∨ (f = 0 ∧ ¬ tWd t L (zsbi i) s) := hI
        have hf : zrg f := by rcases hI with h | h <;> rw [h.1] <;> decide
        refine zF_iload_n 40 dX12_isWord_39 rfl rfl ?_
        refine zF_if_eq 82 43 dX12_isWord_40 rfl rfl (by first | decide | assumption | (constructor <;> omega)) (fun c10 => ?_) (fun c10 => ?_)
        · refine zF_iload_n 83 dX12_isWord_82 rfl rfl ?_
          exact zF_zretP dX12_isWord_83 rfl (by omega) ((by
    rcases hI with ⟨e1, h9, h8, h7⟩ | ⟨e1, h9⟩
    · rw [e1]; exact zbT ⟨by rw [tKd_0 h9.1]; exact h9.2, h8, fun k hk => h7 k (by have hk2 : k < zsl i := hk; omega)⟩
    · rw [e1]; exact zbF h9))
        · refine zF_iload_n 44 dX12_isWord_43 rfl rfl ?_
          refine zF_aload_n 45 dX12_isWord_44 rfl rfl ?_
          refine zF_callOi 48 (d2 := (d + 3)) (as := []) dX12_isWord_45 rfl kX12_321 iJ0_length_8abf5 (hG.1 i hi).1 eJ0_length_8abf5 (Nat.le_refl _) rfl rfl (Nat.le_of_ble_eq_true rfl) (zt_J0_length hG hi) ?_
          refine zF_icmp_ge 82 51 dX12_isWord_48 rfl rfl (by first | decide | assumption | (constructor <;> omega)) (by first | decide | assumption | (constructor <;> omega)) (fun c11 => ?_) (fun c11 => ?_)
          · refine zF_iload_n 83 dX12_isWord_82 rfl rfl ?_
            exact zF_zretP dX12_isWord_83 rfl (by omega) ((by
    rcases hI with ⟨e1, h9, h8, h7⟩ | ⟨e1, h9⟩
    · rw [e1]; exact zbT ⟨by rw [tKd_0 h9.1]; exact h9.2, h8, fun k hk => h7 k (by have hk2 : k < zsl i := hk; omega)⟩
    · rw [e1]; exact zbF h9))
          · have hh := hI.resolve_right (fun z => by omega)
            replace hh := hh.2
            have tq := hx.b (tbg t L s.1 + x : Nat) (by omega) (by omega)
            have zc := zsc_b i hi x (by omega)
            have ej : ((tbg t L s.1 + x : Nat) : Int) = (tbg t L s.1 : Int) + (x : Int) := by push_cast; rfl
            have ej2 := congrArg t ej
            rw [ej] at tq
            refine zF_aload_n 52 dX12_isWord_51 rfl rfl ?_
            refine zF_iload_n 53 dX12_isWord_52 rfl rfl ?_
            refine zF_callOi 56 (d2 := (d + 3)) (as := [zI ((x : Nat) : Int)]) dX12_isWord_53 rfl kX12_324 iJ0_charAt_5068e (hG.1 i hi).1 eJ0_charAt_5068e (Nat.le_refl _) rfl rfl (Nat.le_of_ble_eq_true rfl) (zt_J0_charAt hG hi (k := x) (by omega)) ?_
            refine zF_aload_n 57 dX12_isWord_56 rfl rfl ?_
            refine zF_getR 60 dX12_isWord_57 rfl gX12_47 hM.1 hM.2.1 (zM_18 hM).1 ?_
            refine zF_aload_n 61 dX12_isWord_60 rfl rfl ?_
            refine zF_getI 64 dX12_isWord_61 rfl gX12_351 (by decide) (by decide) hM.1 hM.2.1 hs.2.2.2.1 ?_
            refine zF_iload_n 65 dX12_isWord_64 rfl rfl ?_
            refine zF_iadd 66 dX12_isWord_65 rfl ?_
            refine zF_iaload 67 dX12_isWord_66 rfl (zM_18 hM).2.2 (zM_18 hM).2.1 (by omega) (by omega) (hx.2 _ (by omega) (by omega)).1 ?_
            refine zF_icmp_ne 74 70 dX12_isWord_67 rfl rfl (by first | decide | assumption | (constructor <;> omega)) (by first | decide | assumption | (constructor <;> omega)) (fun c12 => ?_) (fun c12 => ?_)
            · refine zF_iconst 75 dX12_isWord_74 rfl ?_
              refine zF_istore_n 76 (ls' := [(2, zI 0), (3, zI ((x : Nat) : Int)), (0, zR hm), (1, zR (zbg + i))]) dX12_isWord_75 rfl (by decide) rfl ?_
              refine zF_iinc 79 (ls' := [(3, zI (((x : Nat) : Int) + 1)), (2, zI 0), (0, zR hm), (1, zR (zbg + i))]) dX12_isWord_76 rfl rfl rfl (by decide) rfl ?_
              refine zF_goto 39 dX12_isWord_79 rfl ?_
              exact zF_locs (ls' := [(2, zI 0), (3, zI (((x + 1) : Nat) : Int)), (0, zR hm), (1, zR (zbg + i))]) ⟨rfl, zlI rfl (by first | rfl | omega | (push_cast; omega) | exact congrArg (_ + ·) (zbT (by assumption)) | exact congrArg (_ + ·) (zbF (by assumption)) | exact congrArg (_ + ·) (zbT (by omega)) | exact congrArg (_ + ·) (zbF (by omega)) | exact congrArg (_ + ·) (if_pos (by omega)).symm | exact congrArg (_ + ·) (if_neg (by omega)).symm | exact (if_pos (by omega)).symm | exact (if_neg (by omega)).symm | exact zsub_s (if_pos (by omega)).symm | exact zsub_s0 (if_neg (by omega)).symm | exact zadd0 (if_neg (by omega)).symm | exact zadd0 (zbF (by omega)) | exact (Int.sub_zero _).symm), rfl, rfl, trivial⟩ (ih39 ((x + 1), 0) _ (by omega) (⟨by show x + 1 ≤ zsl i; omega, rfl, Or.inr ⟨rfl, fun z => by have z3 : t ((tbg t L s.1 + x : Nat) : Int) = zsc i x := z.2.2 x (by omega); omega⟩⟩))
            · refine zF_iconst 71 dX12_isWord_70 rfl ?_
              refine zF_goto 75 dX12_isWord_71 rfl ?_
              refine zF_istore_n 76 (ls' := [(2, zI 1), (3, zI ((x : Nat) : Int)), (0, zR hm), (1, zR (zbg + i))]) dX12_isWord_75 rfl (by decide) rfl ?_
              refine zF_iinc 79 (ls' := [(3, zI (((x : Nat) : Int) + 1)), (2, zI 1), (0, zR hm), (1, zR (zbg + i))]) dX12_isWord_76 rfl rfl rfl (by decide) rfl ?_
              refine zF_goto 39 dX12_isWord_79 rfl ?_
              exact zF_locs (ls' := [(2, zI 1), (3, zI (((x + 1) : Nat) : Int)), (0, zR hm), (1, zR (zbg + i))]) ⟨rfl, zlI rfl (by first | rfl | omega | (push_cast; omega) | exact congrArg (_ + ·) (zbT (by assumption)) | exact congrArg (_ + ·) (zbF (by assumption)) | exact congrArg (_ + ·) (zbT (by omega)) | exact congrArg (_ + ·) (zbF (by omega)) | exact congrArg (_ + ·) (if_pos (by omega)).symm | exact congrArg (_ + ·) (if_neg (by omega)).symm | exact (if_pos (by omega)).symm | exact (if_neg (by omega)).symm | exact zsub_s (if_pos (by omega)).symm | exact zsub_s0 (if_neg (by omega)).symm | exact zadd0 (if_neg (by omega)).symm | exact zadd0 (zbF (by omega)) | exact (Int.sub_zero _).symm), rfl, rfl, trivial⟩ (ih39 ((x + 1), 1) _ (by omega) (⟨by show x + 1 ≤ zsl i; omega, rfl, Or.inl ⟨rfl, hh.1, hh.2.1, fun k hk => by
          by_cases e : k = x
          · subst e; omega
          · exact hh.2.2 k (by have hk2 : k < x + 1 := hk; omega)⟩⟩))
      · refine zF_iconst 32 dX12_isWord_31 rfl ?_
        refine zF_goto 36 dX12_isWord_32 rfl ?_
        refine zF_istore_n 37 (ls' := [(2, zI 1), (0, zR hm), (1, zR (zbg + i))]) dX12_isWord_36 rfl (by decide) rfl ?_
        refine zF_iconst 38 dX12_isWord_37 rfl ?_
        refine zF_istore_n 39 (ls' := [(3, zI 0), (2, zI 1), (0, zR hm), (1, zR (zbg + i))]) dX12_isWord_38 rfl (by decide) rfl ?_
        refine zF_locs (ls' := [(2, zI 1), (3, zI ((0 : Nat) : Int)), (0, zR hm), (1, zR (zbg + i))]) ⟨rfl, zlI rfl (by first | rfl | omega | (push_cast; omega) | exact congrArg (_ + ·) (zbT (by assumption)) | exact congrArg (_ + ·) (zbF (by assumption)) | exact congrArg (_ + ·) (zbT (by omega)) | exact congrArg (_ + ·) (zbF (by omega)) | exact congrArg (_ + ·) (if_pos (by omega)).symm | exact congrArg (_ + ·) (if_neg (by omega)).symm | exact (if_pos (by omega)).symm | exact (if_neg (by omega)).symm | exact zsub_s (if_pos (by omega)).symm | exact zsub_s0 (if_neg (by omega)).symm | exact zadd0 (if_neg (by omega)).symm | exact zadd0 (zbF (by omega)) | exact (Int.sub_zero _).symm), rfl, rfl, trivial⟩ ?_
        refine zF_while (X := Nat × Int) (fun y => zsl i - y.1) (fun y σ2 => y.1 ≤ zsl i ∧ σ2 = σ ∧ ((y.2 = 1 ∧ (s.2 = 0 ∧ tk t L s.1 = 1) ∧ te t L s.1 - tbg t L s.1 = zsl i ∧ ∀ k : Nat, k < y.1 → t ((tbg t L s.1 + k : Nat) : Int) = zsc i k) ∨ (y.2 = 0 ∧ ¬ tWd t L (zsbi i) s))) (fun y => [(2, zI y.2), (3, zI ((y.1 : Nat) : Int)), (0, zR hm), (1, zR (zbg + i))]) ?_ (0, 1) σ (⟨Nat.zero_le _, rfl, Or.inl ⟨rfl, ⟨by omega, by omega⟩, by omega, fun k hk => absurd hk (Nat.not_lt_zero _)⟩⟩)
        intro ⟨x, f⟩ σ2 hI39 ih39
        show zF G mX12_isWord (d + 4) 39 [(2, zI f), (3, zI ((x : Nat) : Int)), (0, zR hm), (1, zR (zbg + i))] [] σ2 _
        obtain ⟨hx1, e2, hI⟩ := hI39
        replace hx1 : x ≤ zsl i := hx1
        subst e2
        replace hI : (f = 1 ∧ (s.2 = 0 ∧ tk t L s.1 = 1) ∧ te t L s.1 - tbg t L s.1 = zsl i ∧ ∀ k : Nat, k < x → t ((tbg t L s.1 + k : Nat) : Int) = zsc i k) ∨ (f = 0 ∧ ¬ tWd t L (zsbi i) s) := hI
        have hf : zrg f := by rcases hI with h | h <;> rw [h.1] <;> decide
        refine zF_iload_n 40 dX12_isWord_39 rfl rfl ?_
        refine zF_if_eq 82 43 dX12_isWord_40 rfl rfl (by first | decide | assumption | (constructor <;> omega)) (fun c13 => ?_) (fun c13 => ?_)
        · refine zF_iload_n 83 dX12_isWord_82 rfl rfl ?_
          exact zF_zretP dX12_isWord_83 rfl (by omega) ((by
    rcases hI with ⟨e1, h9, h8, h7⟩ | ⟨e1, h9⟩
    · rw [e1]; exact zbT ⟨by rw [tKd_0 h9.1]; exact h9.2, h8, fun k hk => h7 k (by have hk2 : k < zsl i := hk; omega)⟩
    · rw [e1]; exact zbF h9))
        · refine zF_iload_n 44 dX12_isWord_43 rfl rfl ?_
          refine zF_aload_n 45 dX12_isWord_44 rfl rfl ?_
          refine zF_callOi 48 (d2 := (d + 3)) (as := []) dX12_isWord_45 rfl kX12_321 iJ0_length_8abf5 (hG.1 i hi).1 eJ0_length_8abf5 (Nat.le_refl _) rfl rfl (Nat.le_of_ble_eq_true rfl) (zt_J0_length hG hi) ?_
          refine zF_icmp_ge 82 51 dX12_isWord_48 rfl rfl (by first | decide | assumption | (constructor <;> omega)) (by first | decide | assumption | (constructor <;> omega)) (fun c14 => ?_) (fun c14 => ?_)
          · refine zF_iload_n 83 dX12_isWord_82 rfl rfl ?_
            exact zF_zretP dX12_isWord_83 rfl (by omega) ((by
    rcases hI with ⟨e1, h9, h8, h7⟩ | ⟨e1, h9⟩
    · rw [e1]; exact zbT ⟨by rw [tKd_0 h9.1]; exact h9.2, h8, fun k hk => h7 k (by have hk2 : k < zsl i := hk; omega)⟩
    · rw [e1]; exact zbF h9))
          · have hh := hI.resolve_right (fun z => by omega)
            replace hh := hh.2
            have tq := hx.b (tbg t L s.1 + x : Nat) (by omega) (by omega)
            have zc := zsc_b i hi x (by omega)
            have ej : ((tbg t L s.1 + x : Nat) : Int) = (tbg t L s.1 : Int) + (x : Int) := by push_cast; rfl
            have ej2 := congrArg t ej
            rw [ej] at tq
            refine zF_aload_n 52 dX12_isWord_51 rfl rfl ?_
            refine zF_iload_n 53 dX12_isWord_52 rfl rfl ?_
            refine zF_callOi 56 (d2 := (d + 3)) (as := [zI ((x : Nat) : Int)]) dX12_isWord_53 rfl kX12_324 iJ0_charAt_5068e (hG.1 i hi).1 eJ0_charAt_5068e (Nat.le_refl _) rfl rfl (Nat.le_of_ble_eq_true rfl) (zt_J0_charAt hG hi (k := x) (by omega)) ?_
            refine zF_aload_n 57 dX12_isWord_56 rfl rfl ?_
            refine zF_getR 60 dX12_isWord_57 rfl gX12_47 hM.1 hM.2.1 (zM_18 hM).1 ?_
            refine zF_aload_n 61 dX12_isWord_60 rfl rfl ?_
            refine zF_getI 64 dX12_isWord_61 rfl gX12_351 (by decide) (by decide) hM.1 hM.2.1 hs.2.2.2.1 ?_
            refine zF_iload_n 65 dX12_isWord_64 rfl rfl ?_
            refine zF_iadd 66 dX12_isWord_65 rfl ?_
            refine zF_iaload 67 dX12_isWord_66 rfl (zM_18 hM).2.2 (zM_18 hM).2.1 (by omega) (by omega) (hx.2 _ (by omega) (by omega)).1 ?_
            refine zF_icmp_ne 74 70 dX12_isWord_67 rfl rfl (by first | decide | assumption | (constructor <;> omega)) (by first | decide | assumption | (constructor <;> omega)) (fun c15 => ?_) (fun c15 => ?_)
            · refine zF_iconst 75 dX12_isWord_74 rfl ?_
              refine zF_istore_n 76 (ls' := [(2, zI 0), (3, zI ((x : Nat) : Int)), (0, zR hm), (1, zR (zbg + i))]) dX12_isWord_75 rfl (by decide) rfl ?_
              refine zF_iinc 79 (ls' := [(3, zI (((x : Nat) : Int) + 1)), (2, zI 0), (0, zR hm), (1, zR (zbg + i))]) dX12_isWord_76 rfl rfl rfl (by decide) rfl ?_
              refine zF_goto 39 dX12_isWord_79 rfl ?_
              exact zF_locs (ls' := [(2, zI 0), (3, zI (((x + 1) : Nat) : Int)), (0, zR hm), (1, zR (zbg + i))]) ⟨rfl, zlI rfl (by first | rfl | omega | (push_cast; omega) | exact congrArg (_ + ·) (zbT (by assumption)) | exact congrArg (_ + ·) (zbF (by assumption)) | exact congrArg (_ + ·) (zbT (by omega)) | exact congrArg (_ + ·) (zbF (by omega)) | exact congrArg (_ + ·) (if_pos (by omega)).symm | exact congrArg (_ + ·) (if_neg (by omega)).symm | exact (if_pos (by omega)).symm | exact (if_neg (by omega)).symm | exact zsub_s (if_pos (by omega)).symm | exact zsub_s0 (if_neg (by omega)).symm | exact zadd0 (if_neg (by omega)).symm | exact zadd0 (zbF (by omega)) | exact (Int.sub_zero _).symm), rfl, rfl, trivial⟩ (ih39 ((x + 1), 0) _ (by omega) (⟨by show x + 1 ≤ zsl i; omega, rfl, Or.inr ⟨rfl, fun z => by have z3 : t ((tbg t L s.1 + x : Nat) : Int) = zsc i x := z.2.2 x (by omega); omega⟩⟩))
            · refine zF_iconst 71 dX12_isWord_70 rfl ?_
              refine zF_goto 75 dX12_isWord_71 rfl ?_
              refine zF_istore_n 76 (ls' := [(2, zI 1), (3, zI ((x : Nat) : Int)), (0, zR hm), (1, zR (zbg + i))]) dX12_isWord_75 rfl (by decide) rfl ?_
              refine zF_iinc 79 (ls' := [(3, zI (((x : Nat) : Int) + 1)), (2, zI 1), (0, zR hm), (1, zR (zbg + i))]) dX12_isWord_76 rfl rfl rfl (by decide) rfl ?_
              refine zF_goto 39 dX12_isWord_79 rfl ?_
              exact zF_locs (ls' := [(2, zI 1), (3, zI (((x + 1) : Nat) : Int)), (0, zR hm), (1, zR (zbg + i))]) ⟨rfl, zlI rfl (by first | rfl | omega | (push_cast; omega) | exact congrArg (_ + ·) (zbT (by assumption)) | exact congrArg (_ + ·) (zbF (by assumption)) | exact congrArg (_ + ·) (zbT (by omega)) | exact congrArg (_ + ·) (zbF (by omega)) | exact congrArg (_ + ·) (if_pos (by omega)).symm | exact congrArg (_ + ·) (if_neg (by omega)).symm | exact (if_pos (by omega)).symm | exact (if_neg (by omega)).symm | exact zsub_s (if_pos (by omega)).symm | exact zsub_s0 (if_neg (by omega)).symm | exact zadd0 (if_neg (by omega)).symm | exact zadd0 (zbF (by omega)) | exact (Int.sub_zero _).symm), rfl, rfl, trivial⟩ (ih39 ((x + 1), 1) _ (by omega) (⟨by show x + 1 ≤ zsl i; omega, rfl, Or.inl ⟨rfl, hh.1, hh.2.1, fun k hk => by
          by_cases e : k = x
          · subst e; omega
          · exact hh.2.2 k (by have hk2 : k < x + 1 := hk; omega)⟩⟩))
theorem zt_X12_accept {i : Nat} (hM : zMo σ hm A) (hx : mTx σ A t L) (hs : mTs σ hm t L s) (hG : zOS G) (hi : i < 59) : zE G mX12_accept (d + 5) [zR hm, zR (zbg + i)] σ (fun ro σ1 => ro = .inl (some (zI (zb (tWd t L (zsbi i) s)))) ∧ zFr (mPt hm) σ σ1 ∧ mTs σ1 hm t L (if tWd t L (zsbi i) s then tAdv t L s else s)) := by
  refine zE_of rfl (by simp [zcat]) (Nat.le_of_ble_eq_true rfl) ?_
  show zF G mX12_accept (d + 5) 0 [(0, zR hm), (1, zR (zbg + i))] [] σ _
  have hlt := mTs_lt hs
  have hl7 := hx.1
  have kb := tk_b t L s.1
  have eb := hs.2.2.2.2.2.2.2
  refine zF_aload_n 1 dX12_accept_0 rfl rfl ?_
  refine zF_aload_n 2 dX12_accept_1 rfl rfl ?_
  refine zF_callVi 5 (d2 := (d + 4)) (as := [zR (zbg + i)]) dX12_accept_2 rfl kX12_378 iX12_isWord (ci := 12) rfl eX12_isWord (Nat.le_refl _) hM.1 hM.2.1 rfl rfl (Nat.le_of_ble_eq_true rfl) (zt_X12_isWord (σ := σ) hM hx hs hG hi) ?_
  refine zF_istore_n 6 (ls' := [(2, zI (zb (tWd t L (zsbi i) s))), (0, zR hm), (1, zR (zbg + i))]) dX12_accept_5 rfl (by decide) rfl ?_
  refine zF_iload_n 7 dX12_accept_6 rfl rfl ?_
  refine zF_ifb_eq 14 10 dX12_accept_7 rfl rfl (fun c1 => ?_) (fun c1 => ?_)
  · refine zF_iload_n 15 dX12_accept_14 rfl rfl ?_
    exact zF_zreturn dX12_accept_15 rfl (zb01 _) ((by
    have e : (if tWd t L (zsbi i) s then tAdv t L s else s) = s := if_neg (by assumption)
    rw [e]
    exact ⟨rfl, zFr.rf, hs⟩))
  · have hs0 : s.2 = 0 := tWd_0 (by assumption : tWd t L (zsbi i) s)
    refine zF_aload_n 11 dX12_accept_10 rfl rfl ?_
    refine zF_callV 14 (d2 := (d + 4)) (as := []) dX12_accept_11 rfl kX12_369 iX12_scan (ci := 12) rfl eX12_scan (Nat.le_refl _) hM.1 hM.2.1 rfl rfl (Nat.le_of_ble_eq_true rfl) (zE.mono (zt_X12_scan (σ := σ) (q := te t L s.1) hM hx hs.2.1 (by omega) hs.2.2.1) fun ro σa1 hh1 => ?_)
    obtain ⟨er1, fr1, p1⟩ := hh1
    subst er1
    refine ⟨fr1.1, ?_⟩
    show zF G mX12_accept (d + 5) 14 [(2, zI (zb (tWd t L (zsbi i) s))), (0, zR hm), (1, zR (zbg + i))] [] σa1 _
    have hMa1 := zMo_f2 fr1 hM
    have hxa1 := mTx_s hM hx fr1
    have hs1a : mTs σa1 hm t L (te t L s.1, 0) := ⟨by show te t L s.1 ≤ L; omega, mPs_o fr1 (by omega) hs.2.1, p1.1, p1.2.1, p1.2.2, mPs_o fr1 (by omega) (hs.2.2.2.2.2.1.trans (by first | assumption | omega)), fun z => absurd rfl z, by show (0 : Int) ≤ 0; decide, by show (0 : Int) ≤ 100; decide⟩
    refine zF_iload_n 15 dX12_accept_14 rfl rfl ?_
    exact zF_zreturn dX12_accept_15 rfl (zb01 _) ((by
    have e : (if tWd t L (zsbi i) s then tAdv t L s else s) = (te t L s.1, 0) := (if_pos (by assumption)).trans (if_pos hs0)
    rw [e]
    exact ⟨rfl, (mPs_t fr1), hs1a⟩))
/-- a word that must come -/
def tWdS (t : Int → Int) (L : Nat) (w : List Int) (s : tS) : tS := if tWd t L w s then tAdv t L s else tFail 1 s
theorem tAdv_f {c : Int} {s : tS} (hc : c ≠ 0) : tAdv t L (tFail c s) = tFail c s := if_neg (tFail_2 hc)
theorem tWdS_a {w : List Int} {s : tS} : tAdv t L (if tWd t L w s then s else tFail 1 s) = tWdS t L w s := by
  unfold tWdS
  split
  · rfl
  · exact tAdv_f (by decide)
theorem tSgS_a {c : Int} {s : tS} : tAdv t L (if tSg t L c s then s else tFail 1 s) = tSgS t L c s := by
  unfold tSgS
  split
  · rfl
  · exact tAdv_f (by decide)
theorem zt_X12_expectWord {i : Nat} (hM : zMo σ hm A) (hx : mTx σ A t L) (hs : mTs σ hm t L s) (hG : zOS G) (hi : i < 59) : zE G mX12_expectWord (d + 6) [zR hm, zR (zbg + i)] σ (fun ro σ1 => ro = .inl none ∧ zFr (mPt hm) σ σ1 ∧ mTs σ1 hm t L (tWdS t L (zsbi i) s)) := by
  refine zE_of rfl (by simp [zcat]) (Nat.le_of_ble_eq_true rfl) ?_
  show zF G mX12_expectWord (d + 6) 0 [(0, zR hm), (1, zR (zbg + i))] [] σ _
  have hlt := mTs_lt hs
  have hl7 := hx.1
  have kb := tk_b t L s.1
  have eb := hs.2.2.2.2.2.2.2
  refine zF_aload_n 1 dX12_expectWord_0 rfl rfl ?_
  refine zF_aload_n 2 dX12_expectWord_1 rfl rfl ?_
  refine zF_aload_n 3 dX12_expectWord_2 rfl rfl ?_
  refine zF_callVi 6 (d2 := (d + 5)) (as := [zR (zbg + i)]) dX12_expectWord_3 rfl kX12_378 iX12_isWord (ci := 12) rfl eX12_isWord (Nat.le_refl _) hM.1 hM.2.1 rfl rfl (Nat.le_of_ble_eq_true rfl) (zt_X12_isWord (σ := σ) hM hx hs hG hi) ?_
  refine zF_iconst 7 dX12_expectWord_6 rfl ?_
  refine zF_callV 10 (d2 := (d + 5)) (as := [zI (zb (tWd t L (zsbi i) s)), zI 1]) dX12_expectWord_7 rfl kX12_382 iX12_check (ci := 12) rfl eX12_check (Nat.le_refl _) hM.1 hM.2.1 rfl rfl (Nat.le_of_ble_eq_true rfl) (zE.mono (zt_X12_check (σ := σ) (P := (tWd t L (zsbi i) s)) (c := 1) hM hx hs rfl (by decide) (by decide)) fun ro σa1 hh1 => ?_)
  obtain ⟨er1, fr1, p1⟩ := hh1
  subst er1
  refine ⟨fr1.1, ?_⟩
  show zF G mX12_expectWord (d + 6) 10 [(0, zR hm), (1, zR (zbg + i))] [] σa1 _
  have hMa1 := zMo_f2 (σ := σ) fr1 hM
  have hxa1 := mTx_t (σ := σ) hM hx fr1
  have hs1a : mTs σa1 hm t L (if (tWd t L (zsbi i) s) then s else tFail 1 s) := p1
  refine zF_aload_n 11 dX12_expectWord_10 rfl rfl ?_
  refine zF_callV 14 (d2 := (d + 5)) (as := []) dX12_expectWord_11 rfl kX12_386 iX12_advance (ci := 12) rfl eX12_advance (Nat.le_refl _) hMa1.1 hMa1.2.1 rfl rfl (Nat.le_of_ble_eq_true rfl) (zE.mono (zt_X12_advance (σ := σa1) hMa1 hxa1 hs1a) fun ro σa2 hh2 => ?_)
  obtain ⟨er2, fr2, p2⟩ := hh2
  subst er2
  refine ⟨fr2.1, ?_⟩
  show zF G mX12_expectWord (d + 6) 14 [(0, zR hm), (1, zR (zbg + i))] [] σa2 _
  have hMa2 := zMo_f2 (σ := σa1) fr2 hMa1
  have hxa2 := mTx_t (σ := σa1) hMa1 hxa1 fr2
  have hs2a : mTs σa2 hm t L (tAdv t L (if (tWd t L (zsbi i) s) then s else tFail 1 s)) := p2
  exact zF_return dX12_expectWord_14 rfl (⟨rfl, (fr1.tr fr2), tWdS_a ▸ hs2a⟩)
theorem zt_X12_expect {c : Int} (hM : zMo σ hm A) (hx : mTx σ A t L) (hs : mTs σ hm t L s) (h0 : 0 ≤ c) (h1 : c < 128) : zE G mX12_expect (d + 6) [zR hm, zI c] σ (fun ro σ1 => ro = .inl none ∧ zFr (mPt hm) σ σ1 ∧ mTs σ1 hm t L (tSgS t L c s)) := by
  refine zE_of rfl (by simp [zcat]) (Nat.le_of_ble_eq_true rfl) ?_
  show zF G mX12_expect (d + 6) 0 [(0, zR hm), (1, zI c)] [] σ _
  have hlt := mTs_lt hs
  have hl7 := hx.1
  have kb := tk_b t L s.1
  have eb := hs.2.2.2.2.2.2.2
  refine zF_aload_n 1 dX12_expect_0 rfl rfl ?_
  refine zF_aload_n 2 dX12_expect_1 rfl rfl ?_
  refine zF_iload_n 3 dX12_expect_2 rfl rfl ?_
  refine zF_callVi 6 (d2 := (d + 5)) (as := [zI c]) dX12_expect_3 rfl kX12_389 iX12_isSymbol (ci := 12) rfl eX12_isSymbol (Nat.le_refl _) hM.1 hM.2.1 rfl rfl (Nat.le_of_ble_eq_true rfl) (zt_X12_isSymbol (σ := σ) hM hx hs (by omega) (by omega)) ?_
  refine zF_iconst 7 dX12_expect_6 rfl ?_
  refine zF_callV 10 (d2 := (d + 5)) (as := [zI (zb (tSg t L c s)), zI 1]) dX12_expect_7 rfl kX12_382 iX12_check (ci := 12) rfl eX12_check (Nat.le_refl _) hM.1 hM.2.1 rfl rfl (Nat.le_of_ble_eq_true rfl) (zE.mono (zt_X12_check (σ := σ) (P := (tSg t L c s)) (c := 1) hM hx hs rfl (by decide) (by decide)) fun ro σa1 hh1 => ?_)
  obtain ⟨er1, fr1, p1⟩ := hh1
  subst er1
  refine ⟨fr1.1, ?_⟩
  show zF G mX12_expect (d + 6) 10 [(0, zR hm), (1, zI c)] [] σa1 _
  have hMa1 := zMo_f2 (σ := σ) fr1 hM
  have hxa1 := mTx_t (σ := σ) hM hx fr1
  have hs1a : mTs σa1 hm t L (if (tSg t L c s) then s else tFail 1 s) := p1
  refine zF_aload_n 11 dX12_expect_10 rfl rfl ?_
  refine zF_callV 14 (d2 := (d + 5)) (as := []) dX12_expect_11 rfl kX12_386 iX12_advance (ci := 12) rfl eX12_advance (Nat.le_refl _) hMa1.1 hMa1.2.1 rfl rfl (Nat.le_of_ble_eq_true rfl) (zE.mono (zt_X12_advance (σ := σa1) hMa1 hxa1 hs1a) fun ro σa2 hh2 => ?_)
  obtain ⟨er2, fr2, p2⟩ := hh2
  subst er2
  refine ⟨fr2.1, ?_⟩
  show zF G mX12_expect (d + 6) 14 [(0, zR hm), (1, zI c)] [] σa2 _
  have hMa2 := zMo_f2 (σ := σa1) fr2 hMa1
  have hxa2 := mTx_t (σ := σa1) hMa1 hxa1 fr2
  have hs2a : mTs σa2 hm t L (tAdv t L (if (tSg t L c s) then s else tFail 1 s)) := p2
  exact zF_return dX12_expect_14 rfl (⟨rfl, (fr1.tr fr2), tSgS_a ▸ hs2a⟩)
theorem tuV_0 {q : Nat} (h : tk t L q ≠ 2) : tuV t L q = 0 := if_neg h
theorem zt_X12_value  (hM : zMo σ hm A) (hx : mTx σ A t L) (hs : mTs σ hm t L s) : zP1 G mX12_value (d + 1) [zR hm] σ (tuV t L s.1) := by
  refine zE_of rfl (by simp [zcat]) (Nat.le_of_ble_eq_true rfl) ?_
  show zF G mX12_value (d + 1) 0 [(0, zR hm)] [] σ _
  have hlt := mTs_lt hs
  have hl7 := hx.1
  have kb := tk_b t L s.1
  have eb := hs.2.2.2.2.2.2.2
  refine zF_iconst 1 dX12_value_0 rfl ?_
  refine zF_istore_n 2 (ls' := [(1, zI 0), (0, zR hm)]) dX12_value_1 rfl (by decide) rfl ?_
  refine zF_aload_n 3 dX12_value_2 rfl rfl ?_
  refine zF_getI 6 dX12_value_3 rfl gX12_351 (by decide) (by decide) hM.1 hM.2.1 hs.2.2.2.1 ?_
  refine zF_istore_n 7 (ls' := [(2, zI ((tbg t L s.1 : Nat) : Int)), (1, zI 0), (0, zR hm)]) dX12_value_6 rfl (by decide) rfl ?_
  refine zF_locs (ls' := [(2, zI (((tbg t L s.1) : Nat) : Int)), (1, zI 0), (0, zR hm)]) ⟨zlI rfl (by first | rfl | omega | (push_cast; omega) | exact congrArg (_ + ·) (zbT (by assumption)) | exact congrArg (_ + ·) (zbF (by assumption)) | exact congrArg (_ + ·) (zbT (by omega)) | exact congrArg (_ + ·) (zbF (by omega)) | exact congrArg (_ + ·) (if_pos (by omega)).symm | exact congrArg (_ + ·) (if_neg (by omega)).symm | exact (if_pos (by omega)).symm | exact (if_neg (by omega)).symm | exact zsub_s (if_pos (by omega)).symm | exact zsub_s0 (if_neg (by omega)).symm | exact zadd0 (if_neg (by omega)).symm | exact zadd0 (zbF (by omega)) | exact (Int.sub_zero _).symm), rfl, rfl, trivial⟩ ?_
  refine zF_while (X := Nat × Int) (fun y => L - y.1) (fun y σ2 => tbg t L s.1 ≤ y.1 ∧ y.1 ≤ te t L s.1 ∧ σ2 = σ ∧ (0 ≤ y.2 ∧ y.2 ≤ 2000000000) ∧ (tk t L s.1 = 2 → y.2 = tuN t (tbg t L s.1) (y.1 - tbg t L s.1)) ∧ (tk t L s.1 ≠ 2 → y.2 = 0)) (fun y => [(2, zI ((y.1 : Nat) : Int)), (1, zI y.2), (0, zR hm)]) ?_ ((tbg t L s.1), 0) σ (⟨Nat.le_refl _, by omega, rfl, by show (0 : Int) ≤ 0 ∧ (0 : Int) ≤ 2000000000; decide, fun _ => by show (0 : Int) = tuN t _ (tbg t L s.1 - tbg t L s.1); rw [Nat.sub_self]; rfl, fun _ => rfl⟩)
  intro ⟨x, v⟩ σ2 hI7 ih7
  show zF G mX12_value (d + 1) 7 [(2, zI ((x : Nat) : Int)), (1, zI v), (0, zR hm)] [] σ2 _
  obtain ⟨hx0, hx1, e2, hv, ev2, ev1⟩ := hI7
  replace hx0 : tbg t L s.1 ≤ x := hx0
  replace hx1 : x ≤ te t L s.1 := hx1
  replace hv : 0 ≤ v ∧ v ≤ 2000000000 := hv
  replace ev2 : tk t L s.1 = 2 → v = tuN t (tbg t L s.1) (x - tbg t L s.1) := ev2
  replace ev1 : tk t L s.1 ≠ 2 → v = 0 := ev1
  subst e2
  refine zF_iload_n 8 dX12_value_7 rfl rfl ?_
  refine zF_aload_n 9 dX12_value_8 rfl rfl ?_
  refine zF_getI 12 dX12_value_9 rfl gX12_348 (by decide) (by decide) hM.1 hM.2.1 hs.2.2.1 ?_
  refine zF_icmp_ge 55 15 dX12_value_12 rfl rfl (by first | decide | assumption | exact mBy_rg | (constructor <;> omega)) (by first | decide | assumption | exact mBy_rg | (constructor <;> omega)) (fun c1 => ?_) (fun c1 => ?_)
  · refine zF_iload_n 56 dX12_value_55 rfl rfl ?_
    exact zF_iretP dX12_value_56 rfl ((by
    by_cases k2 : tk t L s.1 = 2
    · rw [ev2 k2]; have hz : x = te t L s.1 := by omega
      unfold tuV; rw [if_pos k2, hz]
    · rw [ev1 k2]; exact (tuV_0 k2).symm))
  · refine zF_aload_n 16 dX12_value_15 rfl rfl ?_
    refine zF_getI 19 dX12_value_16 rfl gX12_354 (by decide) (by decide) hM.1 hM.2.1 hs.2.2.2.2.1 ?_
    refine zF_iconst 20 dX12_value_19 rfl ?_
    refine zF_icmp_ne 55 23 dX12_value_20 rfl rfl (by first | decide | assumption | exact mBy_rg | (constructor <;> omega)) (by first | decide | assumption | exact mBy_rg | (constructor <;> omega)) (fun c2 => ?_) (fun c2 => ?_)
    · refine zF_iload_n 56 dX12_value_55 rfl rfl ?_
      exact zF_iretP dX12_value_56 rfl ((by
    by_cases k2 : tk t L s.1 = 2
    · rw [ev2 k2]; have hz : x = te t L s.1 := by omega
      unfold tuV; rw [if_pos k2, hz]
    · rw [ev1 k2]; exact (tuV_0 k2).symm))
    · have k2 : tk t L s.1 = 2 := by omega
      obtain ⟨_, _, _, dg⟩ := tk_2 hs.1 k2
      have dgx := dg x (by omega) (by omega)
      have hbx := hx.b x (by omega) (by omega)
      refine zF_ldc2 26 dX12_value_23 rfl oX12_392 ?_
      refine zF_ldc2 29 dX12_value_26 rfl oX12_394 ?_
      refine zF_iload_n 30 dX12_value_29 rfl rfl ?_
      refine zF_i2l 31 dX12_value_30 rfl (by first | decide | assumption | exact mBy_rg | (constructor <;> omega)) ?_
      refine zF_lmul 32 dX12_value_31 rfl ?_
      refine zF_aload_n 33 dX12_value_32 rfl rfl ?_
      refine zF_getR 36 dX12_value_33 rfl gX12_47 hM.1 hM.2.1 (zM_18 hM).1 ?_
      refine zF_iload_n 37 dX12_value_36 rfl rfl ?_
      refine zF_iaload 38 dX12_value_37 rfl (zM_18 hM).2.2 (zM_18 hM).2.1 (by omega) (by omega) (hx.2 _ (by omega) (by omega)).1 ?_
      refine zF_i2l 39 dX12_value_38 rfl (by first | decide | assumption | exact mBy_rg | (constructor <;> omega)) ?_
      refine zF_ladd 40 dX12_value_39 rfl ?_
      refine zF_ldc2 43 dX12_value_40 rfl oX12_396 ?_
      refine zF_lsub 44 dX12_value_43 rfl ?_
      refine zF_minL 47 dX12_value_44 rfl kX12_398 (Nat.le_refl _) (zrgL_of (by omega)) (zrgL_of (by omega)) (Nat.le_of_ble_eq_true rfl) ?_
      refine zF_l2i 48 dX12_value_47 rfl (by first | decide | assumption | exact mBy_rg | (constructor <;> omega)) ?_
      refine zF_istore_n 49 (ls' := [(1, zI (min (2000000000) ((((10) * v) + (t ((x : Nat) : Int) % 256)) - (48)))), (2, zI ((x : Nat) : Int)), (0, zR hm)]) dX12_value_48 rfl (by decide) rfl ?_
      refine zF_iinc 52 (ls' := [(2, zI (((x : Nat) : Int) + 1)), (1, zI (min (2000000000) ((((10) * v) + (t ((x : Nat) : Int) % 256)) - (48)))), (0, zR hm)]) dX12_value_49 rfl rfl rfl (by decide) rfl ?_
      refine zF_goto 7 dX12_value_52 rfl ?_
      exact zF_locs (ls' := [(2, zI (((x + 1) : Nat) : Int)), (1, zI (min (2000000000) ((((10) * v) + (t ((x : Nat) : Int) % 256)) - (48)))), (0, zR hm)]) ⟨zlI rfl (by first | rfl | omega | (push_cast; omega) | exact congrArg (_ + ·) (zbT (by assumption)) | exact congrArg (_ + ·) (zbF (by assumption)) | exact congrArg (_ + ·) (zbT (by omega)) | exact congrArg (_ + ·) (zbF (by omega)) | exact congrArg (_ + ·) (if_pos (by omega)).symm | exact congrArg (_ + ·) (if_neg (by omega)).symm | exact (if_pos (by omega)).symm | exact (if_neg (by omega)).symm | exact zsub_s (if_pos (by omega)).symm | exact zsub_s0 (if_neg (by omega)).symm | exact zadd0 (if_neg (by omega)).symm | exact zadd0 (zbF (by omega)) | exact (Int.sub_zero _).symm), rfl, rfl, trivial⟩ (ih7 ((x + 1), (min (2000000000) ((((10) * v) + (t ((x : Nat) : Int) % 256)) - (48)))) _ (by omega) (⟨by show _ ≤ x + 1; omega, by show x + 1 ≤ _; omega, rfl, by show 0 ≤ min _ _ ∧ min _ _ ≤ (2000000000 : Int); omega, fun k2 => (congrArg (fun z => min 2000000000 (10 * z + t x % 256 - 48)) (ev2 k2)).trans ((by rw [show t x % 256 = t x by omega] : _ = min 2000000000 (10 * tuN t (tbg t L s.1) (x - tbg t L s.1) + t x - 48)).trans (tuN_step hx0)), fun k2 => absurd (by omega) k2⟩))
theorem zt_X12_readNumber {lo hi : Int} (hM : zMo σ hm A) (hx : mTx σ A t L) (hs : mTs σ hm t L s) (h0 : zrg lo) (h1 : zrg hi) (h9 : hi < 1000000) : zE G mX12_readNumber (d + 6) [zR hm, zI lo, zI hi] σ (fun ro σ1 => ro = .inl (some (zI (tNumV t L lo hi s))) ∧ zFr (mPt hm) σ σ1 ∧ mTs σ1 hm t L (tNumS t L lo hi s)) := by
  refine zE_of rfl (by simp [zcat]) (Nat.le_of_ble_eq_true rfl) ?_
  show zF G mX12_readNumber (d + 6) 0 [(0, zR hm), (1, zI lo), (2, zI hi)] [] σ _
  have hlt := mTs_lt hs
  have hl7 := hx.1
  have kb := tk_b t L s.1
  have eb := hs.2.2.2.2.2.2.2
  have ub := tuV_b (t := t) (L := L) (s := s) hs.1
  refine zF_aload_n 1 dX12_readNumber_0 rfl rfl ?_
  refine zF_aload_n 2 dX12_readNumber_1 rfl rfl ?_
  refine zF_getI 5 dX12_readNumber_2 rfl gX12_363 (by decide) (by decide) hM.1 hM.2.1 hs.2.2.2.2.2.1 ?_
  refine zF_if_ne 16 8 dX12_readNumber_5 rfl rfl (by first | decide | assumption | (constructor <;> omega)) (fun c1 => ?_) (fun c1 => ?_)
  · refine zF_iconst 17 dX12_readNumber_16 rfl ?_
    refine zF_goto 21 dX12_readNumber_17 rfl ?_
    refine zF_iconst 22 dX12_readNumber_21 rfl ?_
    refine zF_callV 25 (d2 := (d + 5)) (as := [zI 1, zI 1]) dX12_readNumber_22 rfl kX12_382 iX12_check (ci := 12) rfl eX12_check (Nat.le_refl _) hM.1 hM.2.1 rfl rfl (Nat.le_of_ble_eq_true rfl) (zE.mono (zt_X12_check (σ := σ) (P := True) (c := 1) hM hx hs rfl (by decide) (by decide)) fun ro σa1 hh1 => ?_)
    obtain ⟨er1, fr1, p1⟩ := hh1
    subst er1
    refine ⟨fr1.1, ?_⟩
    show zF G mX12_readNumber (d + 6) 25 [(0, zR hm), (1, zI lo), (2, zI hi)] [] σa1 _
    have hMa1 := zMo_f2 (σ := σ) fr1 hM
    have hxa1 := mTx_t (σ := σ) hM hx fr1
    have hs1a : mTs σa1 hm t L s := mTs_to p1 (if_pos trivial)
    refine zF_aload_n 26 dX12_readNumber_25 rfl rfl ?_
    refine zF_callVi 29 (d2 := (d + 5)) (as := []) dX12_readNumber_26 rfl kX12_401 iX12_value (ci := 12) rfl eX12_value (Nat.le_refl _) hMa1.1 hMa1.2.1 rfl rfl (Nat.le_of_ble_eq_true rfl) (zt_X12_value (σ := σa1) hMa1 hxa1 hs1a) ?_
    refine zF_istore_n 30 (ls' := [(3, zI (tuV t L s.1)), (0, zR hm), (1, zI lo), (2, zI hi)]) dX12_readNumber_29 rfl (by decide) rfl ?_
    refine zF_aload_n 31 dX12_readNumber_30 rfl rfl ?_
    refine zF_aload_n 32 dX12_readNumber_31 rfl rfl ?_
    refine zF_getI 35 dX12_readNumber_32 rfl gX12_363 (by decide) (by decide) hMa1.1 hMa1.2.1 hs1a.2.2.2.2.2.1 ?_
    refine zF_if_ne 47 38 dX12_readNumber_35 rfl rfl (by first | decide | assumption | (constructor <;> omega)) (fun c2 => ?_) (fun c2 => ?_)
    · refine zF_iconst 48 dX12_readNumber_47 rfl ?_
      refine zF_goto 52 dX12_readNumber_48 rfl ?_
      refine zF_iconst 53 dX12_readNumber_52 rfl ?_
      refine zF_callV 56 (d2 := (d + 5)) (as := [zI 1, zI 2]) dX12_readNumber_53 rfl kX12_382 iX12_check (ci := 12) rfl eX12_check (Nat.le_refl _) hMa1.1 hMa1.2.1 rfl rfl (Nat.le_of_ble_eq_true rfl) (zE.mono (zt_X12_check (σ := σa1) (P := True) (c := 2) hMa1 hxa1 hs1a rfl (by decide) (by decide)) fun ro σa2 hh2 => ?_)
      obtain ⟨er2, fr2, p2⟩ := hh2
      subst er2
      refine ⟨fr2.1, ?_⟩
      show zF G mX12_readNumber (d + 6) 56 [(3, zI (tuV t L s.1)), (0, zR hm), (1, zI lo), (2, zI hi)] [] σa2 _
      have hMa2 := zMo_f2 (σ := σa1) fr2 hMa1
      have hxa2 := mTx_t (σ := σa1) hMa1 hxa1 fr2
      have hs2a : mTs σa2 hm t L s := mTs_to p2 (if_pos trivial)
      refine zF_aload_n 57 dX12_readNumber_56 rfl rfl ?_
      refine zF_callV 60 (d2 := (d + 5)) (as := []) dX12_readNumber_57 rfl kX12_386 iX12_advance (ci := 12) rfl eX12_advance (Nat.le_refl _) hMa2.1 hMa2.2.1 rfl rfl (Nat.le_of_ble_eq_true rfl) (zE.mono (zt_X12_advance (σ := σa2) hMa2 hxa2 hs2a) fun ro σa3 hh3 => ?_)
      obtain ⟨er3, fr3, p3⟩ := hh3
      subst er3
      refine ⟨fr3.1, ?_⟩
      show zF G mX12_readNumber (d + 6) 60 [(3, zI (tuV t L s.1)), (0, zR hm), (1, zI lo), (2, zI hi)] [] σa3 _
      have hMa3 := zMo_f2 (σ := σa2) fr3 hMa2
      have hxa3 := mTx_t (σ := σa2) hMa2 hxa2 fr3
      have hs3a : mTs σa3 hm t L s := mTs_to p3 (if_neg (by first | assumption | omega) : tAdv t L s = s)
      refine zF_aload_n 61 dX12_readNumber_60 rfl rfl ?_
      refine zF_getI 64 dX12_readNumber_61 rfl gX12_363 (by decide) (by decide) hMa3.1 hMa3.2.1 hs3a.2.2.2.2.2.1 ?_
      refine zF_if_ne 71 67 dX12_readNumber_64 rfl rfl (by first | decide | assumption | (constructor <;> omega)) (fun c3 => ?_) (fun c3 => ?_)
      · refine zF_iload_n 72 dX12_readNumber_71 rfl rfl ?_
        exact zF_ireturn dX12_readNumber_72 rfl ((by
    have e1 : tNumS t L lo hi s = s := (if_pos (by have z := tKd_e (t := t) (L := L) (s := s) (by omega); omega)).trans (if_neg (by omega))
    have e2 : tNumV t L lo hi s = lo := if_pos (Or.inl (by have z := tKd_e (t := t) (L := L) (s := s) (by omega); omega))
    rw [e1, e2]
    exact ⟨rfl, ((fr1.tr fr2).tr fr3), hs3a⟩))
      · exact absurd c3 (by first | assumption | omega)
    · exact absurd c2 (by first | assumption | omega)
  · refine zF_aload_n 9 dX12_readNumber_8 rfl rfl ?_
    refine zF_getI 12 dX12_readNumber_9 rfl gX12_354 (by decide) (by decide) hM.1 hM.2.1 hs.2.2.2.2.1 ?_
    refine zF_iconst 13 dX12_readNumber_12 rfl ?_
    refine zF_icmp_ne 20 16 dX12_readNumber_13 rfl rfl (by first | decide | assumption | (constructor <;> omega)) (by first | decide | assumption | (constructor <;> omega)) (fun c4 => ?_) (fun c4 => ?_)
    · refine zF_iconst 21 dX12_readNumber_20 rfl ?_
      refine zF_iconst 22 dX12_readNumber_21 rfl ?_
      refine zF_callV 25 (d2 := (d + 5)) (as := [zI 0, zI 1]) dX12_readNumber_22 rfl kX12_382 iX12_check (ci := 12) rfl eX12_check (Nat.le_refl _) hM.1 hM.2.1 rfl rfl (Nat.le_of_ble_eq_true rfl) (zE.mono (zt_X12_check (σ := σ) (P := False) (c := 1) hM hx hs rfl (by decide) (by decide)) fun ro σa4 hh4 => ?_)
      obtain ⟨er4, fr4, p4⟩ := hh4
      subst er4
      refine ⟨fr4.1, ?_⟩
      show zF G mX12_readNumber (d + 6) 25 [(0, zR hm), (1, zI lo), (2, zI hi)] [] σa4 _
      have hMa4 := zMo_f2 (σ := σ) fr4 hM
      have hxa4 := mTx_t (σ := σ) hM hx fr4
      have hs4a : mTs σa4 hm t L (s.1, 1) := mTs_to p4 ((if_neg id).trans (if_pos (by first | assumption | omega)) : (if False then s else tFail 1 s) = (s.1, 1))
      refine zF_aload_n 26 dX12_readNumber_25 rfl rfl ?_
      refine zF_callVi 29 (d2 := (d + 5)) (as := []) dX12_readNumber_26 rfl kX12_401 iX12_value (ci := 12) rfl eX12_value (Nat.le_refl _) hMa4.1 hMa4.2.1 rfl rfl (Nat.le_of_ble_eq_true rfl) (zt_X12_value (σ := σa4) hMa4 hxa4 hs4a) ?_
      refine zF_istore_n 30 (ls' := [(3, zI (tuV t L (s.1, 1).1)), (0, zR hm), (1, zI lo), (2, zI hi)]) dX12_readNumber_29 rfl (by decide) rfl ?_
      refine zF_aload_n 31 dX12_readNumber_30 rfl rfl ?_
      refine zF_aload_n 32 dX12_readNumber_31 rfl rfl ?_
      refine zF_getI 35 dX12_readNumber_32 rfl gX12_363 (by decide) (by decide) hMa4.1 hMa4.2.1 hs4a.2.2.2.2.2.1 ?_
      refine zF_if_ne 47 38 dX12_readNumber_35 rfl rfl (by first | decide | assumption | (constructor <;> omega)) (fun c5 => ?_) (fun c5 => ?_)
      · refine zF_iconst 48 dX12_readNumber_47 rfl ?_
        refine zF_goto 52 dX12_readNumber_48 rfl ?_
        refine zF_iconst 53 dX12_readNumber_52 rfl ?_
        refine zF_callV 56 (d2 := (d + 5)) (as := [zI 1, zI 2]) dX12_readNumber_53 rfl kX12_382 iX12_check (ci := 12) rfl eX12_check (Nat.le_refl _) hMa4.1 hMa4.2.1 rfl rfl (Nat.le_of_ble_eq_true rfl) (zE.mono (zt_X12_check (σ := σa4) (P := True) (c := 2) hMa4 hxa4 hs4a rfl (by decide) (by decide)) fun ro σa5 hh5 => ?_)
        obtain ⟨er5, fr5, p5⟩ := hh5
        subst er5
        refine ⟨fr5.1, ?_⟩
        show zF G mX12_readNumber (d + 6) 56 [(3, zI (tuV t L (s.1, 1).1)), (0, zR hm), (1, zI lo), (2, zI hi)] [] σa5 _
        have hMa5 := zMo_f2 (σ := σa4) fr5 hMa4
        have hxa5 := mTx_t (σ := σa4) hMa4 hxa4 fr5
        have hs5a : mTs σa5 hm t L (s.1, 1) := mTs_to p5 (if_pos trivial)
        refine zF_aload_n 57 dX12_readNumber_56 rfl rfl ?_
        refine zF_callV 60 (d2 := (d + 5)) (as := []) dX12_readNumber_57 rfl kX12_386 iX12_advance (ci := 12) rfl eX12_advance (Nat.le_refl _) hMa5.1 hMa5.2.1 rfl rfl (Nat.le_of_ble_eq_true rfl) (zE.mono (zt_X12_advance (σ := σa5) hMa5 hxa5 hs5a) fun ro σa6 hh6 => ?_)
        obtain ⟨er6, fr6, p6⟩ := hh6
        subst er6
        refine ⟨fr6.1, ?_⟩
        show zF G mX12_readNumber (d + 6) 60 [(3, zI (tuV t L (s.1, 1).1)), (0, zR hm), (1, zI lo), (2, zI hi)] [] σa6 _
        have hMa6 := zMo_f2 (σ := σa5) fr6 hMa5
        have hxa6 := mTx_t (σ := σa5) hMa5 hxa5 fr6
        have hs6a : mTs σa6 hm t L (s.1, 1) := mTs_to p6 (if_neg (by show ¬ (1 : Int) = 0; decide) : tAdv t L (s.1, 1) = (s.1, 1))
        refine zF_aload_n 61 dX12_readNumber_60 rfl rfl ?_
        refine zF_getI 64 dX12_readNumber_61 rfl gX12_363 (by decide) (by decide) hMa6.1 hMa6.2.1 hs6a.2.2.2.2.2.1 ?_
        refine zF_if_ne 71 67 dX12_readNumber_64 rfl rfl (by first | decide | assumption | (constructor <;> omega)) (fun c6 => ?_) (fun c6 => ?_)
        · refine zF_iload_n 72 dX12_readNumber_71 rfl rfl ?_
          exact zF_ireturn dX12_readNumber_72 rfl ((by
    have z0 := tKd_0 (t := t) (L := L) (s := s) (by omega)
    have e1 : tNumS t L lo hi s = (s.1, 1) := (if_pos (by omega)).trans (if_pos (by omega))
    have e2 : tNumV t L lo hi s = lo := if_pos (Or.inl (by omega))
    rw [e1, e2]
    exact ⟨rfl, ((fr4.tr fr5).tr fr6), hs6a⟩))
        · exact absurd c6 (by first | decide | simp)
      · exact absurd c5 (by first | decide | simp)
    · refine zF_iconst 17 dX12_readNumber_16 rfl ?_
      refine zF_goto 21 dX12_readNumber_17 rfl ?_
      refine zF_iconst 22 dX12_readNumber_21 rfl ?_
      refine zF_callV 25 (d2 := (d + 5)) (as := [zI 1, zI 1]) dX12_readNumber_22 rfl kX12_382 iX12_check (ci := 12) rfl eX12_check (Nat.le_refl _) hM.1 hM.2.1 rfl rfl (Nat.le_of_ble_eq_true rfl) (zE.mono (zt_X12_check (σ := σ) (P := True) (c := 1) hM hx hs rfl (by decide) (by decide)) fun ro σa7 hh7 => ?_)
      obtain ⟨er7, fr7, p7⟩ := hh7
      subst er7
      refine ⟨fr7.1, ?_⟩
      show zF G mX12_readNumber (d + 6) 25 [(0, zR hm), (1, zI lo), (2, zI hi)] [] σa7 _
      have hMa7 := zMo_f2 (σ := σ) fr7 hM
      have hxa7 := mTx_t (σ := σ) hM hx fr7
      have hs7a : mTs σa7 hm t L s := mTs_to p7 (if_pos trivial)
      refine zF_aload_n 26 dX12_readNumber_25 rfl rfl ?_
      refine zF_callVi 29 (d2 := (d + 5)) (as := []) dX12_readNumber_26 rfl kX12_401 iX12_value (ci := 12) rfl eX12_value (Nat.le_refl _) hMa7.1 hMa7.2.1 rfl rfl (Nat.le_of_ble_eq_true rfl) (zt_X12_value (σ := σa7) hMa7 hxa7 hs7a) ?_
      refine zF_istore_n 30 (ls' := [(3, zI (tuV t L s.1)), (0, zR hm), (1, zI lo), (2, zI hi)]) dX12_readNumber_29 rfl (by decide) rfl ?_
      refine zF_aload_n 31 dX12_readNumber_30 rfl rfl ?_
      refine zF_aload_n 32 dX12_readNumber_31 rfl rfl ?_
      refine zF_getI 35 dX12_readNumber_32 rfl gX12_363 (by decide) (by decide) hMa7.1 hMa7.2.1 hs7a.2.2.2.2.2.1 ?_
      refine zF_if_ne 47 38 dX12_readNumber_35 rfl rfl (by first | decide | assumption | (constructor <;> omega)) (fun c7 => ?_) (fun c7 => ?_)
      · exact absurd c7 (by first | assumption | omega)
      · refine zF_iload_n 39 dX12_readNumber_38 rfl rfl ?_
        refine zF_iload_n 40 dX12_readNumber_39 rfl rfl ?_
        refine zF_iload_n 41 dX12_readNumber_40 rfl rfl ?_
        refine zF_callSi 44 (d2 := (d + 5)) (as := [zI (tuV t L s.1), zI lo, zI hi]) dX12_readNumber_41 rfl kX12_109 sX12_inRange (Nat.le_refl _) rfl rfl (Nat.le_of_ble_eq_true rfl) (zt_X12_inRange (by first | decide | assumption | (constructor <;> omega)) (by first | decide | assumption | (constructor <;> omega)) (by first | decide | assumption | (constructor <;> omega))) ?_
        refine zF_ifb_eq 51 47 dX12_readNumber_44 rfl rfl (fun c8 => ?_) (fun c8 => ?_)
        · refine zF_iconst 52 dX12_readNumber_51 rfl ?_
          refine zF_iconst 53 dX12_readNumber_52 rfl ?_
          refine zF_callV 56 (d2 := (d + 5)) (as := [zI 0, zI 2]) dX12_readNumber_53 rfl kX12_382 iX12_check (ci := 12) rfl eX12_check (Nat.le_refl _) hMa7.1 hMa7.2.1 rfl rfl (Nat.le_of_ble_eq_true rfl) (zE.mono (zt_X12_check (σ := σa7) (P := False) (c := 2) hMa7 hxa7 hs7a rfl (by decide) (by decide)) fun ro σa8 hh8 => ?_)
          obtain ⟨er8, fr8, p8⟩ := hh8
          subst er8
          refine ⟨fr8.1, ?_⟩
          show zF G mX12_readNumber (d + 6) 56 [(3, zI (tuV t L s.1)), (0, zR hm), (1, zI lo), (2, zI hi)] [] σa8 _
          have hMa8 := zMo_f2 (σ := σa7) fr8 hMa7
          have hxa8 := mTx_t (σ := σa7) hMa7 hxa7 fr8
          have hs8a : mTs σa8 hm t L (s.1, 2) := mTs_to p8 ((if_neg id).trans (if_pos (by first | assumption | omega)) : (if False then s else tFail 2 s) = (s.1, 2))
          refine zF_aload_n 57 dX12_readNumber_56 rfl rfl ?_
          refine zF_callV 60 (d2 := (d + 5)) (as := []) dX12_readNumber_57 rfl kX12_386 iX12_advance (ci := 12) rfl eX12_advance (Nat.le_refl _) hMa8.1 hMa8.2.1 rfl rfl (Nat.le_of_ble_eq_true rfl) (zE.mono (zt_X12_advance (σ := σa8) hMa8 hxa8 hs8a) fun ro σa9 hh9 => ?_)
          obtain ⟨er9, fr9, p9⟩ := hh9
          subst er9
          refine ⟨fr9.1, ?_⟩
          show zF G mX12_readNumber (d + 6) 60 [(3, zI (tuV t L s.1)), (0, zR hm), (1, zI lo), (2, zI hi)] [] σa9 _
          have hMa9 := zMo_f2 (σ := σa8) fr9 hMa8
          have hxa9 := mTx_t (σ := σa8) hMa8 hxa8 fr9
          have hs9a : mTs σa9 hm t L (s.1, 2) := mTs_to p9 (if_neg (by show ¬ (2 : Int) = 0; decide) : tAdv t L (s.1, 2) = (s.1, 2))
          refine zF_aload_n 61 dX12_readNumber_60 rfl rfl ?_
          refine zF_getI 64 dX12_readNumber_61 rfl gX12_363 (by decide) (by decide) hMa9.1 hMa9.2.1 hs9a.2.2.2.2.2.1 ?_
          refine zF_if_ne 71 67 dX12_readNumber_64 rfl rfl (by first | decide | assumption | (constructor <;> omega)) (fun c9 => ?_) (fun c9 => ?_)
          · refine zF_iload_n 72 dX12_readNumber_71 rfl rfl ?_
            exact zF_ireturn dX12_readNumber_72 rfl ((by
    have z0 := tKd_0 (t := t) (L := L) (s := s) (by omega)
    have q := tuV_tv (t := t) (L := L) (s := s) (lo := lo) (hi := hi) hs.1 (by omega) h9
    have e1 : tNumS t L lo hi s = (s.1, 2) := (if_neg (by omega)).trans ((if_pos (by omega)).trans (if_pos (by omega)))
    have e2 : tNumV t L lo hi s = lo := if_pos (Or.inr (by omega))
    rw [e1, e2]
    exact ⟨rfl, ((fr7.tr fr8).tr fr9), hs9a⟩))
          · exact absurd c9 (by first | decide | simp)
        · refine zF_iconst 48 dX12_readNumber_47 rfl ?_
          refine zF_goto 52 dX12_readNumber_48 rfl ?_
          refine zF_iconst 53 dX12_readNumber_52 rfl ?_
          refine zF_callV 56 (d2 := (d + 5)) (as := [zI 1, zI 2]) dX12_readNumber_53 rfl kX12_382 iX12_check (ci := 12) rfl eX12_check (Nat.le_refl _) hMa7.1 hMa7.2.1 rfl rfl (Nat.le_of_ble_eq_true rfl) (zE.mono (zt_X12_check (σ := σa7) (P := True) (c := 2) hMa7 hxa7 hs7a rfl (by decide) (by decide)) fun ro σa10 hh10 => ?_)
          obtain ⟨er10, fr10, p10⟩ := hh10
          subst er10
          refine ⟨fr10.1, ?_⟩
          show zF G mX12_readNumber (d + 6) 56 [(3, zI (tuV t L s.1)), (0, zR hm), (1, zI lo), (2, zI hi)] [] σa10 _
          have hMa10 := zMo_f2 (σ := σa7) fr10 hMa7
          have hxa10 := mTx_t (σ := σa7) hMa7 hxa7 fr10
          have hs10a : mTs σa10 hm t L s := mTs_to p10 (if_pos trivial)
          refine zF_aload_n 57 dX12_readNumber_56 rfl rfl ?_
          refine zF_callV 60 (d2 := (d + 5)) (as := []) dX12_readNumber_57 rfl kX12_386 iX12_advance (ci := 12) rfl eX12_advance (Nat.le_refl _) hMa10.1 hMa10.2.1 rfl rfl (Nat.le_of_ble_eq_true rfl) (zE.mono (zt_X12_advance (σ := σa10) hMa10 hxa10 hs10a) fun ro σa11 hh11 => ?_)
          obtain ⟨er11, fr11, p11⟩ := hh11
          subst er11
          refine ⟨fr11.1, ?_⟩
          show zF G mX12_readNumber (d + 6) 60 [(3, zI (tuV t L s.1)), (0, zR hm), (1, zI lo), (2, zI hi)] [] σa11 _
          have hMa11 := zMo_f2 (σ := σa10) fr11 hMa10
          have hxa11 := mTx_t (σ := σa10) hMa10 hxa10 fr11
          have hs11a : mTs σa11 hm t L (te t L s.1, 0) := mTs_to p11 (if_pos (by first | assumption | omega) : tAdv t L s = (te t L s.1, 0))
          refine zF_aload_n 61 dX12_readNumber_60 rfl rfl ?_
          refine zF_getI 64 dX12_readNumber_61 rfl gX12_363 (by decide) (by decide) hMa11.1 hMa11.2.1 hs11a.2.2.2.2.2.1 ?_
          refine zF_if_ne 71 67 dX12_readNumber_64 rfl rfl (by first | decide | assumption | (constructor <;> omega)) (fun c10 => ?_) (fun c10 => ?_)
          · exact absurd c10 (by first | decide | simp)
          · refine zF_iload_n 68 dX12_readNumber_67 rfl rfl ?_
            refine zF_goto 72 dX12_readNumber_68 rfl ?_
            exact zF_ireturn dX12_readNumber_72 rfl ((by
    have z0 := tKd_0 (t := t) (L := L) (s := s) (by omega)
    have q := tuV_tv (t := t) (L := L) (s := s) (lo := lo) (hi := hi) hs.1 (by omega) h9
    have e1 : tNumS t L lo hi s = (te t L s.1, 0) := (if_neg (by omega)).trans ((if_neg (by omega)).trans (if_pos (by omega)))
    have e2 : tNumV t L lo hi s = tuV t L s.1 := (if_neg (by omega)).trans (by omega)
    rw [e1, e2]
    exact ⟨rfl, ((fr7.tr fr10).tr fr11), hs11a⟩))
theorem zt_X12_startText (hM : zMo σ hm A) (hx : mTx σ A t L) : zE G mX12_startText (d + 3) [zR hm, zI (L : Int)] σ (fun ro σ1 => ro = .inl none ∧ zFr (mP7 hm) σ σ1 ∧ mTs σ1 hm t L (0, 0) ∧ zia σ1 hm ((27 : Nat) : Int) = 0) := by
  refine zE_of rfl (by simp [zcat]) (Nat.le_of_ble_eq_true rfl) ?_
  show zF G mX12_startText (d + 3) 0 [(0, zR hm), (1, zI (L : Int))] [] σ _
  have hl7 := hx.1
  refine zF_aload_n 1 dX12_startText_0 rfl rfl ?_
  refine zF_iload_n 2 dX12_startText_1 rfl rfl ?_
  refine zF_putI 5 dX12_startText_2 rfl pX12_startText_342 (Or.inl rfl) hM.1 hM.2.1 ?_
  refine zF_aload_n 6 dX12_startText_5 rfl rfl ?_
  refine zF_iconst 7 dX12_startText_6 rfl ?_
  refine zF_putI 10 dX12_startText_7 rfl pX12_startText_348 (Or.inl rfl) hM.1 hM.2.1 ?_
  refine zF_aload_n 11 dX12_startText_10 rfl rfl ?_
  refine zF_iconst 12 dX12_startText_11 rfl ?_
  refine zF_putI 15 dX12_startText_12 rfl pX12_startText_363 (Or.inl rfl) hM.1 hM.2.1 ?_
  refine zF_aload_n 16 dX12_startText_15 rfl rfl ?_
  refine zF_iconst 17 dX12_startText_16 rfl ?_
  refine zF_putI 20 dX12_startText_17 rfl pX12_startText_366 (Or.inl rfl) hM.1 hM.2.1 ?_
  refine zF_aload_n 21 dX12_startText_20 rfl rfl ?_
  refine zF_callV 24 (d2 := (d + 2)) (as := []) dX12_startText_21 rfl kX12_369 iX12_scan (ci := 12) rfl eX12_scan (Nat.le_refl _) hM.1 hM.2.1 rfl rfl (Nat.le_of_ble_eq_true rfl) (zE.mono (zt_X12_scan (σ := (zsi (zsi (zsi (zsi σ hm ((20 : Nat) : Int) (L : Int)) hm ((21 : Nat) : Int) 0) hm ((24 : Nat) : Int) 0) hm ((27 : Nat) : Int) 0)) (q := 0) hM (mTx_si hM (mTx_si hM (mTx_si hM (mTx_si hM hx)))) (zsi_F (by decide) (zsi_F (by decide) (zsi_F (by decide) (zsi_same _ _ _ _)))) (Nat.zero_le _) (zsi_F (by decide) (zsi_F (by decide) (zsi_same _ _ _ _)))) fun ro σa1 hh1 => ?_)
  obtain ⟨er1, fr1, p1⟩ := hh1
  subst er1
  refine ⟨fr1.1, ?_⟩
  show zF G mX12_startText (d + 3) 24 [(0, zR hm), (1, zI (L : Int))] [] σa1 _
  exact zF_return dX12_startText_24 rfl (⟨rfl, (zFr_si ⟨rfl, by decide, by decide⟩ (zFr_si ⟨rfl, by decide, by decide⟩ (zFr_si ⟨rfl, by decide, by decide⟩ (zFr_si ⟨rfl, by decide, by decide⟩ zFr.rf)))).tr (mPs_7 fr1), ⟨Nat.zero_le _, mPs_o fr1 (by omega) (zsi_F (by decide) (zsi_F (by decide) (zsi_F (by decide) (zsi_same _ _ _ _)))), p1.1, p1.2.1, p1.2.2, mPs_o fr1 (by omega) (zsi_F (by decide) (zsi_same _ _ _ _)), fun z => absurd rfl z, by show (0 : Int) ≤ 0; decide, by show (0 : Int) ≤ 100; decide⟩, mPs_o fr1 (by omega) (zsi_same _ _ _ _)⟩)
theorem zt_X12_finish (hM : zMo σ hm A) (hx : mTx σ A t L) (hs : mTs σ hm t L s) : zE G mX12_finish d [zR hm] σ (fun ro σ1 => ro = .inl (some (zI s.2)) ∧ zFr (fun h j => h = hm ∧ (j = 19 ∨ j = 26)) σ σ1 ∧ zia σ1 hm ((19 : Nat) : Int) = 0 ∧ zia σ1 hm ((26 : Nat) : Int) = (if s.2 = 0 then -1 else ((tbg t L s.1 : Nat) : Int))) := by
  refine zE_of rfl (by simp [zcat]) (Nat.le_of_ble_eq_true rfl) ?_
  show zF G mX12_finish d 0 [(0, zR hm)] [] σ _
  have hlt := mTs_lt hs
  have hl7 := hx.1
  have eb := hs.2.2.2.2.2.2.2
  refine zF_aload_n 1 dX12_finish_0 rfl rfl ?_
  refine zF_iconst 2 dX12_finish_1 rfl ?_
  refine zF_putI 5 dX12_finish_2 rfl pX12_finish_339 (Or.inl rfl) hM.1 hM.2.1 ?_
  refine zF_aload_n 6 dX12_finish_5 rfl rfl ?_
  refine zF_aload_n 7 dX12_finish_6 rfl rfl ?_
  refine zF_getI 10 dX12_finish_7 rfl gX12_363 (by decide) (by decide) hM.1 hM.2.1 (zsi_F (by decide) hs.2.2.2.2.2.1) ?_
  refine zF_if_ne 17 13 dX12_finish_10 rfl rfl (by first | decide | assumption | exact h25 | (constructor <;> omega)) (fun c1 => ?_) (fun c1 => ?_)
  · refine zF_aload_n 18 dX12_finish_17 rfl rfl ?_
    refine zF_getI 21 dX12_finish_18 rfl gX12_372 (by decide) (by decide) hM.1 hM.2.1 (zsi_F (by decide) rfl) ?_
    refine zF_putI 24 dX12_finish_21 rfl pX12_finish_50 (Or.inl rfl) hM.1 hM.2.1 ?_
    refine zF_aload_n 25 dX12_finish_24 rfl rfl ?_
    refine zF_getI 28 dX12_finish_25 rfl gX12_363 (by decide) (by decide) hM.1 hM.2.1 (zsi_F (by decide) (zsi_F (by decide) hs.2.2.2.2.2.1)) ?_
    exact zF_ireturn dX12_finish_28 rfl (⟨rfl, zFr_si ⟨rfl, by decide⟩ (zFr_si ⟨rfl, by decide⟩ zFr.rf), (zsi_F (by decide) (zsi_same _ _ _ _)), ((zsi_same _ _ _ _)).trans ((hs.2.2.2.2.2.2.1 (by omega)).trans (if_neg (by omega)).symm)⟩)
  · refine zF_iconst 14 dX12_finish_13 rfl ?_
    refine zF_goto 21 dX12_finish_14 rfl ?_
    refine zF_putI 24 dX12_finish_21 rfl pX12_finish_50 (Or.inl rfl) hM.1 hM.2.1 ?_
    refine zF_aload_n 25 dX12_finish_24 rfl rfl ?_
    refine zF_getI 28 dX12_finish_25 rfl gX12_363 (by decide) (by decide) hM.1 hM.2.1 (zsi_F (by decide) (zsi_F (by decide) hs.2.2.2.2.2.1)) ?_
    exact zF_ireturn dX12_finish_28 rfl (⟨rfl, zFr_si ⟨rfl, by decide⟩ (zFr_si ⟨rfl, by decide⟩ zFr.rf), (zsi_F (by decide) (zsi_same _ _ _ _)), ((zsi_same _ _ _ _)).trans (if_pos (by omega)).symm⟩)
end ZMU

/-! constructors: the memory that each leaves -/
section ZNB
variable {G : zG} {M : zMeth} {d pc : Nat} {ls : List (Nat × zV)} {st : List zV} {σ : zMem} {Q : zRes → zMem → Prop}
theorem zF_putB0 (pc' : Nat) {idx ci k h : Nat} (hd : decode M.2.1 pc = .ok (.putfield idx, 3)) (hp : pc + 3 = pc') (hf : zFP M.1 idx ci k 4) (hk : zkd σ h = (0, ci)) (hn : h < zn σ) (kk : zF G M d pc' ls st (zsi σ h k 0) Q) : zF G M d pc ls (zI 0 :: zR h :: st) σ Q := by
  subst hp
  refine zF_step (σ1 := zsi σ h k 0) rfl rfl rfl ?_ kk
  intro ρ p e R s m args below meth c0 hC H locs cells slots lsA Qm hS hR1 hR2 kk
  simp only [List.map_cons, ztr, Option.map, va_rf]
  have hf2 := hf
  obtain ⟨_, _, _, _, _, _, hcd, _⟩ := hf2
  refine zput hd hf hk hn hC hS (fun t ht => ?_) (zws_si hk hcd (by omega) (by omega)) (zOK_si hS.1.2.2.1) fun H1 locs1 h1 => kk H1 locs1 lsA h1
  rcases zfk_cases ht with ⟨_, q⟩ | ⟨_, q⟩ | ⟨_, q⟩ | ⟨_, q⟩ | ⟨q, _⟩
  · cases q
  · cases q
  · cases q
  · cases q
  · subst q
    decide
theorem znw_k {t n z h : Nat} {v : Nat × Nat} (hn : h < zn σ) (hk : zkd σ h = v) : zkd (znw σ t n z) h = v := by
  rw [zkd_nw, if_neg (Nat.ne_of_lt hn)]
  exact hk
theorem znw_l {t n z h : Nat} (hn : h < zn σ) : h < zn (znw σ t n z) := Nat.lt_succ_of_lt hn
theorem zmk_k {t n k h x : Nat} {v : Nat × Nat} (hn : h < zn σ) (hk : zkd σ h = v) : zkd (zmk1 σ x k t n) h = v := znw_k (z := n) hn hk
theorem zmk_l {t n k h x : Nat} (hn : h < zn σ) : h < zn (zmk1 σ x k t n) := Nat.lt_succ_of_lt hn
theorem zwf_l {n x : Nat} (k : x < n) : zwf n (some x) := fun y hy => Or.inl (by cases hy; exact k)
theorem zmk_bg {n m : Nat} (e : zn σ = n) (h : n + m < zbg) : zn σ < zbg := by omega
theorem dJ5_init_d00df_0 : decode cJ5_init_d00df 0 = .ok (.aload_n 0, 1) := by decide +kernel
theorem dJ5_init_d00df_1 : decode cJ5_init_d00df 1 = .ok (.invokespecial 3, 3) := by decide +kernel
theorem dJ5_init_d00df_4 : decode cJ5_init_d00df 4 = .ok (.getstatic 18, 3) := by decide +kernel
theorem dJ5_init_d00df_7 : decode cJ5_init_d00df 7 = .ok (.ifCond .eq 18, 3) := by decide +kernel
theorem dJ5_init_d00df_10 : decode cJ5_init_d00df 10 = .ok (.aload_n 0, 1) := by decide +kernel
theorem dJ5_init_d00df_11 : decode cJ5_init_d00df 11 = .ok (.iload_n 1, 1) := by decide +kernel
theorem dJ5_init_d00df_12 : decode cJ5_init_d00df 12 = .ok (.newarray .byte, 2) := by decide +kernel
theorem dJ5_init_d00df_14 : decode cJ5_init_d00df 14 = .ok (.putfield 15, 3) := by decide +kernel
theorem dJ5_init_d00df_17 : decode cJ5_init_d00df 17 = .ok (.aload_n 0, 1) := by decide +kernel
theorem dJ5_init_d00df_18 : decode cJ5_init_d00df 18 = .ok (.iconst 0, 1) := by decide +kernel
theorem dJ5_init_d00df_19 : decode cJ5_init_d00df 19 = .ok (.putfield 22, 3) := by decide +kernel
theorem dJ5_init_d00df_22 : decode cJ5_init_d00df 22 = .ok (.goto 16, 3) := by decide +kernel
theorem dJ5_init_d00df_38 : decode cJ5_init_d00df 38 = .ok (.return_, 1) := by decide +kernel
theorem dJ4_init_da8c8_0 : decode cJ4_init_da8c8 0 = .ok (.aload_n 0, 1) := by decide +kernel
theorem dJ4_init_da8c8_1 : decode cJ4_init_da8c8 1 = .ok (.bipush 16, 2) := by decide +kernel
theorem dJ4_init_da8c8_3 : decode cJ4_init_da8c8 3 = .ok (.invokespecial 1, 3) := by decide +kernel
theorem dJ4_init_da8c8_6 : decode cJ4_init_da8c8 6 = .ok (.return_, 1) := by decide +kernel
theorem pJ5_init_d00df_15 : zFP yJ5_init_d00df 15 13 0 2 := ⟨_, _, _, _, zCJ4, by decide, rfl, zi1 53 rfl rfl, Or.inl rfl⟩
theorem pJ5_init_d00df_22 : zFP yJ5_init_d00df 22 13 1 4 := ⟨_, _, _, _, zCJ4, by decide, rfl, zi1 54 rfl rfl, Or.inl rfl⟩
def kX1 (σ : zMem) (h : Nat) : zMem := (zmk1 (zmk1 (zmk1 (zmk1 (zmk1 (zmk1 (zmk1 (zmk1 (zmk1 (zmk1 σ h 1 1 4) h 2 1 4) h 4 1 10) h 5 1 10) h 6 1 10) h 8 1 6) h 9 1 6) h 10 1 6) h 11 1 6) h 12 1 24)
theorem zt_X1_init {h : Nat} (hbg : zn σ + 11 < zbg) (hk : zkd σ h = (0, 1)) (hn : h < zn σ) : zE G mX1_init (d + 1) [zR h] σ (fun r σ1 => r = .inl none ∧ σ1 = kX1 σ h) := by
  refine zE_of rfl (by simp [zcat]) (Nat.le_of_ble_eq_true rfl) ?_
  show zF G mX1_init (d + 1) 0 [(0, zR h)] [] σ _
  refine zF_aload_n 1 dX1_init_0 rfl rfl ?_
  refine zF_obj 4 dX1_init_1 rfl (zi1 70 rfl rfl) (zi1 33 rfl rfl) (zi1 34 rfl rfl) (by omega) (Nat.le_of_ble_eq_true rfl) ?_
  show zF G mX1_init (d + 1) 4 [(0, zR h)] [] σ _
  refine zF_aload_n 5 dX1_init_4 rfl rfl ?_
  refine zF_iconst 6 dX1_init_5 rfl ?_
  refine zF_newarray 8 dX1_init_6 rfl (Or.inl ⟨rfl, rfl⟩) (zi1 152 rfl rfl) (by omega) (by omega) (zmk_bg (σ := σ) (m := 11) rfl (show zn σ + 0 + 11 < zbg from hbg)) (zwl_q (by exact (⟨zwR hn, trivial⟩ : _ ∧ True))) (zwl_m (by exact (⟨zwR hn, trivial⟩ : _ ∧ True))) ?_
  show zF G mX1_init (d + 1) 8 [(0, zR h)] [zR (zn σ), zR h] (znw σ 1 4 4) _
  refine zF_putR 11 dX1_init_8 rfl pX1_init_9 (zwf_l (Nat.lt_succ_self _)) (znw_k hn hk) (znw_l (σ := σ) hn) ?_
  show zF G mX1_init (d + 1) 11 [(0, zR h)] [] (zmk1 σ h 1 1 4) _
  have hk1 : zkd (zmk1 σ h 1 1 4) h = (0, 1) := zmk_k hn hk
  have hn1 : h < zn (zmk1 σ h 1 1 4) := zmk_l (σ := σ) hn
  refine zF_aload_n 12 dX1_init_11 rfl rfl ?_
  refine zF_iconst 13 dX1_init_12 rfl ?_
  refine zF_newarray 15 dX1_init_13 rfl (Or.inl ⟨rfl, rfl⟩) (zi1 152 rfl rfl) (by omega) (by omega) (zmk_bg (σ := (zmk1 σ h 1 1 4)) (m := 10) rfl (show zn σ + 1 + 10 < zbg from hbg)) (zwl_q (by exact (⟨zwR hn1, trivial⟩ : _ ∧ True))) (zwl_m (by exact (⟨zwR hn1, trivial⟩ : _ ∧ True))) ?_
  show zF G mX1_init (d + 1) 15 [(0, zR h)] [zR (zn (zmk1 σ h 1 1 4)), zR h] (znw (zmk1 σ h 1 1 4) 1 4 4) _
  refine zF_putR 18 dX1_init_15 rfl pX1_init_15 (zwf_l (Nat.lt_succ_self _)) (znw_k hn1 hk1) (znw_l (σ := (zmk1 σ h 1 1 4)) hn1) ?_
  show zF G mX1_init (d + 1) 18 [(0, zR h)] [] (zmk1 (zmk1 σ h 1 1 4) h 2 1 4) _
  have hk2 : zkd (zmk1 (zmk1 σ h 1 1 4) h 2 1 4) h = (0, 1) := zmk_k hn1 hk1
  have hn2 : h < zn (zmk1 (zmk1 σ h 1 1 4) h 2 1 4) := zmk_l (σ := (zmk1 σ h 1 1 4)) hn1
  refine zF_aload_n 19 dX1_init_18 rfl rfl ?_
  refine zF_bipush 21 dX1_init_19 rfl (by decide) ?_
  refine zF_newarray 23 dX1_init_21 rfl (Or.inl ⟨rfl, rfl⟩) (zi1 152 rfl rfl) (by omega) (by omega) (zmk_bg (σ := (zmk1 (zmk1 σ h 1 1 4) h 2 1 4)) (m := 9) rfl (show zn σ + 2 + 9 < zbg from hbg)) (zwl_q (by exact (⟨zwR hn2, trivial⟩ : _ ∧ True))) (zwl_m (by exact (⟨zwR hn2, trivial⟩ : _ ∧ True))) ?_
  show zF G mX1_init (d + 1) 23 [(0, zR h)] [zR (zn (zmk1 (zmk1 σ h 1 1 4) h 2 1 4)), zR h] (znw (zmk1 (zmk1 σ h 1 1 4) h 2 1 4) 1 10 10) _
  refine zF_putR 26 dX1_init_23 rfl pX1_init_18 (zwf_l (Nat.lt_succ_self _)) (znw_k hn2 hk2) (znw_l (σ := (zmk1 (zmk1 σ h 1 1 4) h 2 1 4)) hn2) ?_
  show zF G mX1_init (d + 1) 26 [(0, zR h)] [] (zmk1 (zmk1 (zmk1 σ h 1 1 4) h 2 1 4) h 4 1 10) _
  have hk3 : zkd (zmk1 (zmk1 (zmk1 σ h 1 1 4) h 2 1 4) h 4 1 10) h = (0, 1) := zmk_k hn2 hk2
  have hn3 : h < zn (zmk1 (zmk1 (zmk1 σ h 1 1 4) h 2 1 4) h 4 1 10) := zmk_l (σ := (zmk1 (zmk1 σ h 1 1 4) h 2 1 4)) hn2
  refine zF_aload_n 27 dX1_init_26 rfl rfl ?_
  refine zF_bipush 29 dX1_init_27 rfl (by decide) ?_
  refine zF_newarray 31 dX1_init_29 rfl (Or.inl ⟨rfl, rfl⟩) (zi1 152 rfl rfl) (by omega) (by omega) (zmk_bg (σ := (zmk1 (zmk1 (zmk1 σ h 1 1 4) h 2 1 4) h 4 1 10)) (m := 8) rfl (show zn σ + 3 + 8 < zbg from hbg)) (zwl_q (by exact (⟨zwR hn3, trivial⟩ : _ ∧ True))) (zwl_m (by exact (⟨zwR hn3, trivial⟩ : _ ∧ True))) ?_
  show zF G mX1_init (d + 1) 31 [(0, zR h)] [zR (zn (zmk1 (zmk1 (zmk1 σ h 1 1 4) h 2 1 4) h 4 1 10)), zR h] (znw (zmk1 (zmk1 (zmk1 σ h 1 1 4) h 2 1 4) h 4 1 10) 1 10 10) _
  refine zF_putR 34 dX1_init_31 rfl pX1_init_21 (zwf_l (Nat.lt_succ_self _)) (znw_k hn3 hk3) (znw_l (σ := (zmk1 (zmk1 (zmk1 σ h 1 1 4) h 2 1 4) h 4 1 10)) hn3) ?_
  show zF G mX1_init (d + 1) 34 [(0, zR h)] [] (zmk1 (zmk1 (zmk1 (zmk1 σ h 1 1 4) h 2 1 4) h 4 1 10) h 5 1 10) _
  have hk4 : zkd (zmk1 (zmk1 (zmk1 (zmk1 σ h 1 1 4) h 2 1 4) h 4 1 10) h 5 1 10) h = (0, 1) := zmk_k hn3 hk3
  have hn4 : h < zn (zmk1 (zmk1 (zmk1 (zmk1 σ h 1 1 4) h 2 1 4) h 4 1 10) h 5 1 10) := zmk_l (σ := (zmk1 (zmk1 (zmk1 σ h 1 1 4) h 2 1 4) h 4 1 10)) hn3
  refine zF_aload_n 35 dX1_init_34 rfl rfl ?_
  refine zF_bipush 37 dX1_init_35 rfl (by decide) ?_
  refine zF_newarray 39 dX1_init_37 rfl (Or.inl ⟨rfl, rfl⟩) (zi1 152 rfl rfl) (by omega) (by omega) (zmk_bg (σ := (zmk1 (zmk1 (zmk1 (zmk1 σ h 1 1 4) h 2 1 4) h 4 1 10) h 5 1 10)) (m := 7) rfl (show zn σ + 4 + 7 < zbg from hbg)) (zwl_q (by exact (⟨zwR hn4, trivial⟩ : _ ∧ True))) (zwl_m (by exact (⟨zwR hn4, trivial⟩ : _ ∧ True))) ?_
  show zF G mX1_init (d + 1) 39 [(0, zR h)] [zR (zn (zmk1 (zmk1 (zmk1 (zmk1 σ h 1 1 4) h 2 1 4) h 4 1 10) h 5 1 10)), zR h] (znw (zmk1 (zmk1 (zmk1 (zmk1 σ h 1 1 4) h 2 1 4) h 4 1 10) h 5 1 10) 1 10 10) _
  refine zF_putR 42 dX1_init_39 rfl pX1_init_24 (zwf_l (Nat.lt_succ_self _)) (znw_k hn4 hk4) (znw_l (σ := (zmk1 (zmk1 (zmk1 (zmk1 σ h 1 1 4) h 2 1 4) h 4 1 10) h 5 1 10)) hn4) ?_
  show zF G mX1_init (d + 1) 42 [(0, zR h)] [] (zmk1 (zmk1 (zmk1 (zmk1 (zmk1 σ h 1 1 4) h 2 1 4) h 4 1 10) h 5 1 10) h 6 1 10) _
  have hk5 : zkd (zmk1 (zmk1 (zmk1 (zmk1 (zmk1 σ h 1 1 4) h 2 1 4) h 4 1 10) h 5 1 10) h 6 1 10) h = (0, 1) := zmk_k hn4 hk4
  have hn5 : h < zn (zmk1 (zmk1 (zmk1 (zmk1 (zmk1 σ h 1 1 4) h 2 1 4) h 4 1 10) h 5 1 10) h 6 1 10) := zmk_l (σ := (zmk1 (zmk1 (zmk1 (zmk1 σ h 1 1 4) h 2 1 4) h 4 1 10) h 5 1 10)) hn4
  refine zF_aload_n 43 dX1_init_42 rfl rfl ?_
  refine zF_bipush 45 dX1_init_43 rfl (by decide) ?_
  refine zF_newarray 47 dX1_init_45 rfl (Or.inl ⟨rfl, rfl⟩) (zi1 152 rfl rfl) (by omega) (by omega) (zmk_bg (σ := (zmk1 (zmk1 (zmk1 (zmk1 (zmk1 σ h 1 1 4) h 2 1 4) h 4 1 10) h 5 1 10) h 6 1 10)) (m := 6) rfl (show zn σ + 5 + 6 < zbg from hbg)) (zwl_q (by exact (⟨zwR hn5, trivial⟩ : _ ∧ True))) (zwl_m (by exact (⟨zwR hn5, trivial⟩ : _ ∧ True))) ?_
  show zF G mX1_init (d + 1) 47 [(0, zR h)] [zR (zn (zmk1 (zmk1 (zmk1 (zmk1 (zmk1 σ h 1 1 4) h 2 1 4) h 4 1 10) h 5 1 10) h 6 1 10)), zR h] (znw (zmk1 (zmk1 (zmk1 (zmk1 (zmk1 σ h 1 1 4) h 2 1 4) h 4 1 10) h 5 1 10) h 6 1 10) 1 6 6) _
  refine zF_putR 50 dX1_init_47 rfl pX1_init_27 (zwf_l (Nat.lt_succ_self _)) (znw_k hn5 hk5) (znw_l (σ := (zmk1 (zmk1 (zmk1 (zmk1 (zmk1 σ h 1 1 4) h 2 1 4) h 4 1 10) h 5 1 10) h 6 1 10)) hn5) ?_
  show zF G mX1_init (d + 1) 50 [(0, zR h)] [] (zmk1 (zmk1 (zmk1 (zmk1 (zmk1 (zmk1 σ h 1 1 4) h 2 1 4) h 4 1 10) h 5 1 10) h 6 1 10) h 8 1 6) _
  have hk6 : zkd (zmk1 (zmk1 (zmk1 (zmk1 (zmk1 (zmk1 σ h 1 1 4) h 2 1 4) h 4 1 10) h 5 1 10) h 6 1 10) h 8 1 6) h = (0, 1) := zmk_k hn5 hk5
  have hn6 : h < zn (zmk1 (zmk1 (zmk1 (zmk1 (zmk1 (zmk1 σ h 1 1 4) h 2 1 4) h 4 1 10) h 5 1 10) h 6 1 10) h 8 1 6) := zmk_l (σ := (zmk1 (zmk1 (zmk1 (zmk1 (zmk1 σ h 1 1 4) h 2 1 4) h 4 1 10) h 5 1 10) h 6 1 10)) hn5
  refine zF_aload_n 51 dX1_init_50 rfl rfl ?_
  refine zF_bipush 53 dX1_init_51 rfl (by decide) ?_
  refine zF_newarray 55 dX1_init_53 rfl (Or.inl ⟨rfl, rfl⟩) (zi1 152 rfl rfl) (by omega) (by omega) (zmk_bg (σ := (zmk1 (zmk1 (zmk1 (zmk1 (zmk1 (zmk1 σ h 1 1 4) h 2 1 4) h 4 1 10) h 5 1 10) h 6 1 10) h 8 1 6)) (m := 5) rfl (show zn σ + 6 + 5 < zbg from hbg)) (zwl_q (by exact (⟨zwR hn6, trivial⟩ : _ ∧ True))) (zwl_m (by exact (⟨zwR hn6, trivial⟩ : _ ∧ True))) ?_
  show zF G mX1_init (d + 1) 55 [(0, zR h)] [zR (zn (zmk1 (zmk1 (zmk1 (zmk1 (zmk1 (zmk1 σ h 1 1 4) h 2 1 4) h 4 1 10) h 5 1 10) h 6 1 10) h 8 1 6)), zR h] (znw (zmk1 (zmk1 (zmk1 (zmk1 (zmk1 (zmk1 σ h 1 1 4) h 2 1 4) h 4 1 10) h 5 1 10) h 6 1 10) h 8 1 6) 1 6 6) _
  refine zF_putR 58 dX1_init_55 rfl pX1_init_30 (zwf_l (Nat.lt_succ_self _)) (znw_k hn6 hk6) (znw_l (σ := (zmk1 (zmk1 (zmk1 (zmk1 (zmk1 (zmk1 σ h 1 1 4) h 2 1 4) h 4 1 10) h 5 1 10) h 6 1 10) h 8 1 6)) hn6) ?_
  show zF G mX1_init (d + 1) 58 [(0, zR h)] [] (zmk1 (zmk1 (zmk1 (zmk1 (zmk1 (zmk1 (zmk1 σ h 1 1 4) h 2 1 4) h 4 1 10) h 5 1 10) h 6 1 10) h 8 1 6) h 9 1 6) _
  have hk7 : zkd (zmk1 (zmk1 (zmk1 (zmk1 (zmk1 (zmk1 (zmk1 σ h 1 1 4) h 2 1 4) h 4 1 10) h 5 1 10) h 6 1 10) h 8 1 6) h 9 1 6) h = (0, 1) := zmk_k hn6 hk6
  have hn7 : h < zn (zmk1 (zmk1 (zmk1 (zmk1 (zmk1 (zmk1 (zmk1 σ h 1 1 4) h 2 1 4) h 4 1 10) h 5 1 10) h 6 1 10) h 8 1 6) h 9 1 6) := zmk_l (σ := (zmk1 (zmk1 (zmk1 (zmk1 (zmk1 (zmk1 σ h 1 1 4) h 2 1 4) h 4 1 10) h 5 1 10) h 6 1 10) h 8 1 6)) hn6
  refine zF_aload_n 59 dX1_init_58 rfl rfl ?_
  refine zF_bipush 61 dX1_init_59 rfl (by decide) ?_
  refine zF_newarray 63 dX1_init_61 rfl (Or.inl ⟨rfl, rfl⟩) (zi1 152 rfl rfl) (by omega) (by omega) (zmk_bg (σ := (zmk1 (zmk1 (zmk1 (zmk1 (zmk1 (zmk1 (zmk1 σ h 1 1 4) h 2 1 4) h 4 1 10) h 5 1 10) h 6 1 10) h 8 1 6) h 9 1 6)) (m := 4) rfl (show zn σ + 7 + 4 < zbg from hbg)) (zwl_q (by exact (⟨zwR hn7, trivial⟩ : _ ∧ True))) (zwl_m (by exact (⟨zwR hn7, trivial⟩ : _ ∧ True))) ?_
  show zF G mX1_init (d + 1) 63 [(0, zR h)] [zR (zn (zmk1 (zmk1 (zmk1 (zmk1 (zmk1 (zmk1 (zmk1 σ h 1 1 4) h 2 1 4) h 4 1 10) h 5 1 10) h 6 1 10) h 8 1 6) h 9 1 6)), zR h] (znw (zmk1 (zmk1 (zmk1 (zmk1 (zmk1 (zmk1 (zmk1 σ h 1 1 4) h 2 1 4) h 4 1 10) h 5 1 10) h 6 1 10) h 8 1 6) h 9 1 6) 1 6 6) _
  refine zF_putR 66 dX1_init_63 rfl pX1_init_33 (zwf_l (Nat.lt_succ_self _)) (znw_k hn7 hk7) (znw_l (σ := (zmk1 (zmk1 (zmk1 (zmk1 (zmk1 (zmk1 (zmk1 σ h 1 1 4) h 2 1 4) h 4 1 10) h 5 1 10) h 6 1 10) h 8 1 6) h 9 1 6)) hn7) ?_
  show zF G mX1_init (d + 1) 66 [(0, zR h)] [] (zmk1 (zmk1 (zmk1 (zmk1 (zmk1 (zmk1 (zmk1 (zmk1 σ h 1 1 4) h 2 1 4) h 4 1 10) h 5 1 10) h 6 1 10) h 8 1 6) h 9 1 6) h 10 1 6) _
  have hk8 : zkd (zmk1 (zmk1 (zmk1 (zmk1 (zmk1 (zmk1 (zmk1 (zmk1 σ h 1 1 4) h 2 1 4) h 4 1 10) h 5 1 10) h 6 1 10) h 8 1 6) h 9 1 6) h 10 1 6) h = (0, 1) := zmk_k hn7 hk7
  have hn8 : h < zn (zmk1 (zmk1 (zmk1 (zmk1 (zmk1 (zmk1 (zmk1 (zmk1 σ h 1 1 4) h 2 1 4) h 4 1 10) h 5 1 10) h 6 1 10) h 8 1 6) h 9 1 6) h 10 1 6) := zmk_l (σ := (zmk1 (zmk1 (zmk1 (zmk1 (zmk1 (zmk1 (zmk1 σ h 1 1 4) h 2 1 4) h 4 1 10) h 5 1 10) h 6 1 10) h 8 1 6) h 9 1 6)) hn7
  refine zF_aload_n 67 dX1_init_66 rfl rfl ?_
  refine zF_bipush 69 dX1_init_67 rfl (by decide) ?_
  refine zF_newarray 71 dX1_init_69 rfl (Or.inl ⟨rfl, rfl⟩) (zi1 152 rfl rfl) (by omega) (by omega) (zmk_bg (σ := (zmk1 (zmk1 (zmk1 (zmk1 (zmk1 (zmk1 (zmk1 (zmk1 σ h 1 1 4) h 2 1 4) h 4 1 10) h 5 1 10) h 6 1 10) h 8 1 6) h 9 1 6) h 10 1 6)) (m := 3) rfl (show zn σ + 8 + 3 < zbg from hbg)) (zwl_q (by exact (⟨zwR hn8, trivial⟩ : _ ∧ True))) (zwl_m (by exact (⟨zwR hn8, trivial⟩ : _ ∧ True))) ?_
  show zF G mX1_init (d + 1) 71 [(0, zR h)] [zR (zn (zmk1 (zmk1 (zmk1 (zmk1 (zmk1 (zmk1 (zmk1 (zmk1 σ h 1 1 4) h 2 1 4) h 4 1 10) h 5 1 10) h 6 1 10) h 8 1 6) h 9 1 6) h 10 1 6)), zR h] (znw (zmk1 (zmk1 (zmk1 (zmk1 (zmk1 (zmk1 (zmk1 (zmk1 σ h 1 1 4) h 2 1 4) h 4 1 10) h 5 1 10) h 6 1 10) h 8 1 6) h 9 1 6) h 10 1 6) 1 6 6) _
  refine zF_putR 74 dX1_init_71 rfl pX1_init_36 (zwf_l (Nat.lt_succ_self _)) (znw_k hn8 hk8) (znw_l (σ := (zmk1 (zmk1 (zmk1 (zmk1 (zmk1 (zmk1 (zmk1 (zmk1 σ h 1 1 4) h 2 1 4) h 4 1 10) h 5 1 10) h 6 1 10) h 8 1 6) h 9 1 6) h 10 1 6)) hn8) ?_
  show zF G mX1_init (d + 1) 74 [(0, zR h)] [] (zmk1 (zmk1 (zmk1 (zmk1 (zmk1 (zmk1 (zmk1 (zmk1 (zmk1 σ h 1 1 4) h 2 1 4) h 4 1 10) h 5 1 10) h 6 1 10) h 8 1 6) h 9 1 6) h 10 1 6) h 11 1 6) _
  have hk9 : zkd (zmk1 (zmk1 (zmk1 (zmk1 (zmk1 (zmk1 (zmk1 (zmk1 (zmk1 σ h 1 1 4) h 2 1 4) h 4 1 10) h 5 1 10) h 6 1 10) h 8 1 6) h 9 1 6) h 10 1 6) h 11 1 6) h = (0, 1) := zmk_k hn8 hk8
  have hn9 : h < zn (zmk1 (zmk1 (zmk1 (zmk1 (zmk1 (zmk1 (zmk1 (zmk1 (zmk1 σ h 1 1 4) h 2 1 4) h 4 1 10) h 5 1 10) h 6 1 10) h 8 1 6) h 9 1 6) h 10 1 6) h 11 1 6) := zmk_l (σ := (zmk1 (zmk1 (zmk1 (zmk1 (zmk1 (zmk1 (zmk1 (zmk1 σ h 1 1 4) h 2 1 4) h 4 1 10) h 5 1 10) h 6 1 10) h 8 1 6) h 9 1 6) h 10 1 6)) hn8
  refine zF_aload_n 75 dX1_init_74 rfl rfl ?_
  refine zF_bipush 77 dX1_init_75 rfl (by decide) ?_
  refine zF_newarray 79 dX1_init_77 rfl (Or.inl ⟨rfl, rfl⟩) (zi1 152 rfl rfl) (by omega) (by omega) (zmk_bg (σ := (zmk1 (zmk1 (zmk1 (zmk1 (zmk1 (zmk1 (zmk1 (zmk1 (zmk1 σ h 1 1 4) h 2 1 4) h 4 1 10) h 5 1 10) h 6 1 10) h 8 1 6) h 9 1 6) h 10 1 6) h 11 1 6)) (m := 2) rfl (show zn σ + 9 + 2 < zbg from hbg)) (zwl_q (by exact (⟨zwR hn9, trivial⟩ : _ ∧ True))) (zwl_m (by exact (⟨zwR hn9, trivial⟩ : _ ∧ True))) ?_
  show zF G mX1_init (d + 1) 79 [(0, zR h)] [zR (zn (zmk1 (zmk1 (zmk1 (zmk1 (zmk1 (zmk1 (zmk1 (zmk1 (zmk1 σ h 1 1 4) h 2 1 4) h 4 1 10) h 5 1 10) h 6 1 10) h 8 1 6) h 9 1 6) h 10 1 6) h 11 1 6)), zR h] (znw (zmk1 (zmk1 (zmk1 (zmk1 (zmk1 (zmk1 (zmk1 (zmk1 (zmk1 σ h 1 1 4) h 2 1 4) h 4 1 10) h 5 1 10) h 6 1 10) h 8 1 6) h 9 1 6) h 10 1 6) h 11 1 6) 1 24 24) _
  refine zF_putR 82 dX1_init_79 rfl pX1_init_39 (zwf_l (Nat.lt_succ_self _)) (znw_k hn9 hk9) (znw_l (σ := (zmk1 (zmk1 (zmk1 (zmk1 (zmk1 (zmk1 (zmk1 (zmk1 (zmk1 σ h 1 1 4) h 2 1 4) h 4 1 10) h 5 1 10) h 6 1 10) h 8 1 6) h 9 1 6) h 10 1 6) h 11 1 6)) hn9) ?_
  show zF G mX1_init (d + 1) 82 [(0, zR h)] [] (zmk1 (zmk1 (zmk1 (zmk1 (zmk1 (zmk1 (zmk1 (zmk1 (zmk1 (zmk1 σ h 1 1 4) h 2 1 4) h 4 1 10) h 5 1 10) h 6 1 10) h 8 1 6) h 9 1 6) h 10 1 6) h 11 1 6) h 12 1 24) _
  have hk10 : zkd (zmk1 (zmk1 (zmk1 (zmk1 (zmk1 (zmk1 (zmk1 (zmk1 (zmk1 (zmk1 σ h 1 1 4) h 2 1 4) h 4 1 10) h 5 1 10) h 6 1 10) h 8 1 6) h 9 1 6) h 10 1 6) h 11 1 6) h 12 1 24) h = (0, 1) := zmk_k hn9 hk9
  have hn10 : h < zn (zmk1 (zmk1 (zmk1 (zmk1 (zmk1 (zmk1 (zmk1 (zmk1 (zmk1 (zmk1 σ h 1 1 4) h 2 1 4) h 4 1 10) h 5 1 10) h 6 1 10) h 8 1 6) h 9 1 6) h 10 1 6) h 11 1 6) h 12 1 24) := zmk_l (σ := (zmk1 (zmk1 (zmk1 (zmk1 (zmk1 (zmk1 (zmk1 (zmk1 (zmk1 σ h 1 1 4) h 2 1 4) h 4 1 10) h 5 1 10) h 6 1 10) h 8 1 6) h 9 1 6) h 10 1 6) h 11 1 6)) hn9
  exact zF_return dX1_init_82 rfl (⟨rfl, rfl⟩)
def kX8 (σ : zMem) (h : Nat) : zMem := (zmk1 (zmk1 (zmk1 (zmk1 (zmk1 (zmk1 (zmk1 (zmk1 (zmk1 (zmk1 (zmk1 (zmk1 (zmk1 σ h 3 1 4) h 4 1 10) h 5 1 30) h 6 1 10) h 7 1 10) h 8 1 10) h 9 1 10) h 10 1 6) h 11 1 6) h 12 1 6) h 13 1 24) h 14 1 4) h 15 1 100)
theorem zt_X8_init {h : Nat} (hbg : zn σ + 14 < zbg) (hk : zkd σ h = (0, 8)) (hn : h < zn σ) : zE G mX8_init (d + 1) [zR h] σ (fun r σ1 => r = .inl none ∧ σ1 = kX8 σ h) := by
  refine zE_of rfl (by simp [zcat]) (Nat.le_of_ble_eq_true rfl) ?_
  show zF G mX8_init (d + 1) 0 [(0, zR h)] [] σ _
  refine zF_aload_n 1 dX8_init_0 rfl rfl ?_
  refine zF_obj 4 dX8_init_1 rfl (zi1 158 rfl rfl) (zi1 33 rfl rfl) (zi1 34 rfl rfl) (by omega) (Nat.le_of_ble_eq_true rfl) ?_
  show zF G mX8_init (d + 1) 4 [(0, zR h)] [] σ _
  refine zF_aload_n 5 dX8_init_4 rfl rfl ?_
  refine zF_iconst 6 dX8_init_5 rfl ?_
  refine zF_newarray 8 dX8_init_6 rfl (Or.inl ⟨rfl, rfl⟩) (zi1 152 rfl rfl) (by omega) (by omega) (zmk_bg (σ := σ) (m := 14) rfl (show zn σ + 0 + 14 < zbg from hbg)) (zwl_q (by exact (⟨zwR hn, trivial⟩ : _ ∧ True))) (zwl_m (by exact (⟨zwR hn, trivial⟩ : _ ∧ True))) ?_
  show zF G mX8_init (d + 1) 8 [(0, zR h)] [zR (zn σ), zR h] (znw σ 1 4 4) _
  refine zF_putR 11 dX8_init_8 rfl pX8_init_9 (zwf_l (Nat.lt_succ_self _)) (znw_k hn hk) (znw_l (σ := σ) hn) ?_
  show zF G mX8_init (d + 1) 11 [(0, zR h)] [] (zmk1 σ h 3 1 4) _
  have hk1 : zkd (zmk1 σ h 3 1 4) h = (0, 8) := zmk_k hn hk
  have hn1 : h < zn (zmk1 σ h 3 1 4) := zmk_l (σ := σ) hn
  refine zF_aload_n 12 dX8_init_11 rfl rfl ?_
  refine zF_bipush 14 dX8_init_12 rfl (by decide) ?_
  refine zF_newarray 16 dX8_init_14 rfl (Or.inl ⟨rfl, rfl⟩) (zi1 152 rfl rfl) (by omega) (by omega) (zmk_bg (σ := (zmk1 σ h 3 1 4)) (m := 13) rfl (show zn σ + 1 + 13 < zbg from hbg)) (zwl_q (by exact (⟨zwR hn1, trivial⟩ : _ ∧ True))) (zwl_m (by exact (⟨zwR hn1, trivial⟩ : _ ∧ True))) ?_
  show zF G mX8_init (d + 1) 16 [(0, zR h)] [zR (zn (zmk1 σ h 3 1 4)), zR h] (znw (zmk1 σ h 3 1 4) 1 10 10) _
  refine zF_putR 19 dX8_init_16 rfl pX8_init_15 (zwf_l (Nat.lt_succ_self _)) (znw_k hn1 hk1) (znw_l (σ := (zmk1 σ h 3 1 4)) hn1) ?_
  show zF G mX8_init (d + 1) 19 [(0, zR h)] [] (zmk1 (zmk1 σ h 3 1 4) h 4 1 10) _
  have hk2 : zkd (zmk1 (zmk1 σ h 3 1 4) h 4 1 10) h = (0, 8) := zmk_k hn1 hk1
  have hn2 : h < zn (zmk1 (zmk1 σ h 3 1 4) h 4 1 10) := zmk_l (σ := (zmk1 σ h 3 1 4)) hn1
  refine zF_aload_n 20 dX8_init_19 rfl rfl ?_
  refine zF_bipush 22 dX8_init_20 rfl (by decide) ?_
  refine zF_newarray 24 dX8_init_22 rfl (Or.inl ⟨rfl, rfl⟩) (zi1 152 rfl rfl) (by omega) (by omega) (zmk_bg (σ := (zmk1 (zmk1 σ h 3 1 4) h 4 1 10)) (m := 12) rfl (show zn σ + 2 + 12 < zbg from hbg)) (zwl_q (by exact (⟨zwR hn2, trivial⟩ : _ ∧ True))) (zwl_m (by exact (⟨zwR hn2, trivial⟩ : _ ∧ True))) ?_
  show zF G mX8_init (d + 1) 24 [(0, zR h)] [zR (zn (zmk1 (zmk1 σ h 3 1 4) h 4 1 10)), zR h] (znw (zmk1 (zmk1 σ h 3 1 4) h 4 1 10) 1 30 30) _
  refine zF_putR 27 dX8_init_24 rfl pX8_init_18 (zwf_l (Nat.lt_succ_self _)) (znw_k hn2 hk2) (znw_l (σ := (zmk1 (zmk1 σ h 3 1 4) h 4 1 10)) hn2) ?_
  show zF G mX8_init (d + 1) 27 [(0, zR h)] [] (zmk1 (zmk1 (zmk1 σ h 3 1 4) h 4 1 10) h 5 1 30) _
  have hk3 : zkd (zmk1 (zmk1 (zmk1 σ h 3 1 4) h 4 1 10) h 5 1 30) h = (0, 8) := zmk_k hn2 hk2
  have hn3 : h < zn (zmk1 (zmk1 (zmk1 σ h 3 1 4) h 4 1 10) h 5 1 30) := zmk_l (σ := (zmk1 (zmk1 σ h 3 1 4) h 4 1 10)) hn2
  refine zF_aload_n 28 dX8_init_27 rfl rfl ?_
  refine zF_bipush 30 dX8_init_28 rfl (by decide) ?_
  refine zF_newarray 32 dX8_init_30 rfl (Or.inl ⟨rfl, rfl⟩) (zi1 152 rfl rfl) (by omega) (by omega) (zmk_bg (σ := (zmk1 (zmk1 (zmk1 σ h 3 1 4) h 4 1 10) h 5 1 30)) (m := 11) rfl (show zn σ + 3 + 11 < zbg from hbg)) (zwl_q (by exact (⟨zwR hn3, trivial⟩ : _ ∧ True))) (zwl_m (by exact (⟨zwR hn3, trivial⟩ : _ ∧ True))) ?_
  show zF G mX8_init (d + 1) 32 [(0, zR h)] [zR (zn (zmk1 (zmk1 (zmk1 σ h 3 1 4) h 4 1 10) h 5 1 30)), zR h] (znw (zmk1 (zmk1 (zmk1 σ h 3 1 4) h 4 1 10) h 5 1 30) 1 10 10) _
  refine zF_putR 35 dX8_init_32 rfl pX8_init_21 (zwf_l (Nat.lt_succ_self _)) (znw_k hn3 hk3) (znw_l (σ := (zmk1 (zmk1 (zmk1 σ h 3 1 4) h 4 1 10) h 5 1 30)) hn3) ?_
  show zF G mX8_init (d + 1) 35 [(0, zR h)] [] (zmk1 (zmk1 (zmk1 (zmk1 σ h 3 1 4) h 4 1 10) h 5 1 30) h 6 1 10) _
  have hk4 : zkd (zmk1 (zmk1 (zmk1 (zmk1 σ h 3 1 4) h 4 1 10) h 5 1 30) h 6 1 10) h = (0, 8) := zmk_k hn3 hk3
  have hn4 : h < zn (zmk1 (zmk1 (zmk1 (zmk1 σ h 3 1 4) h 4 1 10) h 5 1 30) h 6 1 10) := zmk_l (σ := (zmk1 (zmk1 (zmk1 σ h 3 1 4) h 4 1 10) h 5 1 30)) hn3
  refine zF_aload_n 36 dX8_init_35 rfl rfl ?_
  refine zF_bipush 38 dX8_init_36 rfl (by decide) ?_
  refine zF_newarray 40 dX8_init_38 rfl (Or.inl ⟨rfl, rfl⟩) (zi1 152 rfl rfl) (by omega) (by omega) (zmk_bg (σ := (zmk1 (zmk1 (zmk1 (zmk1 σ h 3 1 4) h 4 1 10) h 5 1 30) h 6 1 10)) (m := 10) rfl (show zn σ + 4 + 10 < zbg from hbg)) (zwl_q (by exact (⟨zwR hn4, trivial⟩ : _ ∧ True))) (zwl_m (by exact (⟨zwR hn4, trivial⟩ : _ ∧ True))) ?_
  show zF G mX8_init (d + 1) 40 [(0, zR h)] [zR (zn (zmk1 (zmk1 (zmk1 (zmk1 σ h 3 1 4) h 4 1 10) h 5 1 30) h 6 1 10)), zR h] (znw (zmk1 (zmk1 (zmk1 (zmk1 σ h 3 1 4) h 4 1 10) h 5 1 30) h 6 1 10) 1 10 10) _
  refine zF_putR 43 dX8_init_40 rfl pX8_init_24 (zwf_l (Nat.lt_succ_self _)) (znw_k hn4 hk4) (znw_l (σ := (zmk1 (zmk1 (zmk1 (zmk1 σ h 3 1 4) h 4 1 10) h 5 1 30) h 6 1 10)) hn4) ?_
  show zF G mX8_init (d + 1) 43 [(0, zR h)] [] (zmk1 (zmk1 (zmk1 (zmk1 (zmk1 σ h 3 1 4) h 4 1 10) h 5 1 30) h 6 1 10) h 7 1 10) _
  have hk5 : zkd (zmk1 (zmk1 (zmk1 (zmk1 (zmk1 σ h 3 1 4) h 4 1 10) h 5 1 30) h 6 1 10) h 7 1 10) h = (0, 8) := zmk_k hn4 hk4
  have hn5 : h < zn (zmk1 (zmk1 (zmk1 (zmk1 (zmk1 σ h 3 1 4) h 4 1 10) h 5 1 30) h 6 1 10) h 7 1 10) := zmk_l (σ := (zmk1 (zmk1 (zmk1 (zmk1 σ h 3 1 4) h 4 1 10) h 5 1 30) h 6 1 10)) hn4
  refine zF_aload_n 44 dX8_init_43 rfl rfl ?_
  refine zF_bipush 46 dX8_init_44 rfl (by decide) ?_
  refine zF_newarray 48 dX8_init_46 rfl (Or.inl ⟨rfl, rfl⟩) (zi1 152 rfl rfl) (by omega) (by omega) (zmk_bg (σ := (zmk1 (zmk1 (zmk1 (zmk1 (zmk1 σ h 3 1 4) h 4 1 10) h 5 1 30) h 6 1 10) h 7 1 10)) (m := 9) rfl (show zn σ + 5 + 9 < zbg from hbg)) (zwl_q (by exact (⟨zwR hn5, trivial⟩ : _ ∧ True))) (zwl_m (by exact (⟨zwR hn5, trivial⟩ : _ ∧ True))) ?_
  show zF G mX8_init (d + 1) 48 [(0, zR h)] [zR (zn (zmk1 (zmk1 (zmk1 (zmk1 (zmk1 σ h 3 1 4) h 4 1 10) h 5 1 30) h 6 1 10) h 7 1 10)), zR h] (znw (zmk1 (zmk1 (zmk1 (zmk1 (zmk1 σ h 3 1 4) h 4 1 10) h 5 1 30) h 6 1 10) h 7 1 10) 1 10 10) _
  refine zF_putR 51 dX8_init_48 rfl pX8_init_27 (zwf_l (Nat.lt_succ_self _)) (znw_k hn5 hk5) (znw_l (σ := (zmk1 (zmk1 (zmk1 (zmk1 (zmk1 σ h 3 1 4) h 4 1 10) h 5 1 30) h 6 1 10) h 7 1 10)) hn5) ?_
  show zF G mX8_init (d + 1) 51 [(0, zR h)] [] (zmk1 (zmk1 (zmk1 (zmk1 (zmk1 (zmk1 σ h 3 1 4) h 4 1 10) h 5 1 30) h 6 1 10) h 7 1 10) h 8 1 10) _
  have hk6 : zkd (zmk1 (zmk1 (zmk1 (zmk1 (zmk1 (zmk1 σ h 3 1 4) h 4 1 10) h 5 1 30) h 6 1 10) h 7 1 10) h 8 1 10) h = (0, 8) := zmk_k hn5 hk5
  have hn6 : h < zn (zmk1 (zmk1 (zmk1 (zmk1 (zmk1 (zmk1 σ h 3 1 4) h 4 1 10) h 5 1 30) h 6 1 10) h 7 1 10) h 8 1 10) := zmk_l (σ := (zmk1 (zmk1 (zmk1 (zmk1 (zmk1 σ h 3 1 4) h 4 1 10) h 5 1 30) h 6 1 10) h 7 1 10)) hn5
  refine zF_aload_n 52 dX8_init_51 rfl rfl ?_
  refine zF_bipush 54 dX8_init_52 rfl (by decide) ?_
  refine zF_newarray 56 dX8_init_54 rfl (Or.inl ⟨rfl, rfl⟩) (zi1 152 rfl rfl) (by omega) (by omega) (zmk_bg (σ := (zmk1 (zmk1 (zmk1 (zmk1 (zmk1 (zmk1 σ h 3 1 4) h 4 1 10) h 5 1 30) h 6 1 10) h 7 1 10) h 8 1 10)) (m := 8) rfl (show zn σ + 6 + 8 < zbg from hbg)) (zwl_q (by exact (⟨zwR hn6, trivial⟩ : _ ∧ True))) (zwl_m (by exact (⟨zwR hn6, trivial⟩ : _ ∧ True))) ?_
  show zF G mX8_init (d + 1) 56 [(0, zR h)] [zR (zn (zmk1 (zmk1 (zmk1 (zmk1 (zmk1 (zmk1 σ h 3 1 4) h 4 1 10) h 5 1 30) h 6 1 10) h 7 1 10) h 8 1 10)), zR h] (znw (zmk1 (zmk1 (zmk1 (zmk1 (zmk1 (zmk1 σ h 3 1 4) h 4 1 10) h 5 1 30) h 6 1 10) h 7 1 10) h 8 1 10) 1 10 10) _
  refine zF_putR 59 dX8_init_56 rfl pX8_init_30 (zwf_l (Nat.lt_succ_self _)) (znw_k hn6 hk6) (znw_l (σ := (zmk1 (zmk1 (zmk1 (zmk1 (zmk1 (zmk1 σ h 3 1 4) h 4 1 10) h 5 1 30) h 6 1 10) h 7 1 10) h 8 1 10)) hn6) ?_
  show zF G mX8_init (d + 1) 59 [(0, zR h)] [] (zmk1 (zmk1 (zmk1 (zmk1 (zmk1 (zmk1 (zmk1 σ h 3 1 4) h 4 1 10) h 5 1 30) h 6 1 10) h 7 1 10) h 8 1 10) h 9 1 10) _
  have hk7 : zkd (zmk1 (zmk1 (zmk1 (zmk1 (zmk1 (zmk1 (zmk1 σ h 3 1 4) h 4 1 10) h 5 1 30) h 6 1 10) h 7 1 10) h 8 1 10) h 9 1 10) h = (0, 8) := zmk_k hn6 hk6
  have hn7 : h < zn (zmk1 (zmk1 (zmk1 (zmk1 (zmk1 (zmk1 (zmk1 σ h 3 1 4) h 4 1 10) h 5 1 30) h 6 1 10) h 7 1 10) h 8 1 10) h 9 1 10) := zmk_l (σ := (zmk1 (zmk1 (zmk1 (zmk1 (zmk1 (zmk1 σ h 3 1 4) h 4 1 10) h 5 1 30) h 6 1 10) h 7 1 10) h 8 1 10)) hn6
  refine zF_aload_n 60 dX8_init_59 rfl rfl ?_
  refine zF_bipush 62 dX8_init_60 rfl (by decide) ?_
  refine zF_newarray 64 dX8_init_62 rfl (Or.inl ⟨rfl, rfl⟩) (zi1 152 rfl rfl) (by omega) (by omega) (zmk_bg (σ := (zmk1 (zmk1 (zmk1 (zmk1 (zmk1 (zmk1 (zmk1 σ h 3 1 4) h 4 1 10) h 5 1 30) h 6 1 10) h 7 1 10) h 8 1 10) h 9 1 10)) (m := 7) rfl (show zn σ + 7 + 7 < zbg from hbg)) (zwl_q (by exact (⟨zwR hn7, trivial⟩ : _ ∧ True))) (zwl_m (by exact (⟨zwR hn7, trivial⟩ : _ ∧ True))) ?_
  show zF G mX8_init (d + 1) 64 [(0, zR h)] [zR (zn (zmk1 (zmk1 (zmk1 (zmk1 (zmk1 (zmk1 (zmk1 σ h 3 1 4) h 4 1 10) h 5 1 30) h 6 1 10) h 7 1 10) h 8 1 10) h 9 1 10)), zR h] (znw (zmk1 (zmk1 (zmk1 (zmk1 (zmk1 (zmk1 (zmk1 σ h 3 1 4) h 4 1 10) h 5 1 30) h 6 1 10) h 7 1 10) h 8 1 10) h 9 1 10) 1 6 6) _
  refine zF_putR 67 dX8_init_64 rfl pX8_init_33 (zwf_l (Nat.lt_succ_self _)) (znw_k hn7 hk7) (znw_l (σ := (zmk1 (zmk1 (zmk1 (zmk1 (zmk1 (zmk1 (zmk1 σ h 3 1 4) h 4 1 10) h 5 1 30) h 6 1 10) h 7 1 10) h 8 1 10) h 9 1 10)) hn7) ?_
  show zF G mX8_init (d + 1) 67 [(0, zR h)] [] (zmk1 (zmk1 (zmk1 (zmk1 (zmk1 (zmk1 (zmk1 (zmk1 σ h 3 1 4) h 4 1 10) h 5 1 30) h 6 1 10) h 7 1 10) h 8 1 10) h 9 1 10) h 10 1 6) _
  have hk8 : zkd (zmk1 (zmk1 (zmk1 (zmk1 (zmk1 (zmk1 (zmk1 (zmk1 σ h 3 1 4) h 4 1 10) h 5 1 30) h 6 1 10) h 7 1 10) h 8 1 10) h 9 1 10) h 10 1 6) h = (0, 8) := zmk_k hn7 hk7
  have hn8 : h < zn (zmk1 (zmk1 (zmk1 (zmk1 (zmk1 (zmk1 (zmk1 (zmk1 σ h 3 1 4) h 4 1 10) h 5 1 30) h 6 1 10) h 7 1 10) h 8 1 10) h 9 1 10) h 10 1 6) := zmk_l (σ := (zmk1 (zmk1 (zmk1 (zmk1 (zmk1 (zmk1 (zmk1 σ h 3 1 4) h 4 1 10) h 5 1 30) h 6 1 10) h 7 1 10) h 8 1 10) h 9 1 10)) hn7
  refine zF_aload_n 68 dX8_init_67 rfl rfl ?_
  refine zF_bipush 70 dX8_init_68 rfl (by decide) ?_
  refine zF_newarray 72 dX8_init_70 rfl (Or.inl ⟨rfl, rfl⟩) (zi1 152 rfl rfl) (by omega) (by omega) (zmk_bg (σ := (zmk1 (zmk1 (zmk1 (zmk1 (zmk1 (zmk1 (zmk1 (zmk1 σ h 3 1 4) h 4 1 10) h 5 1 30) h 6 1 10) h 7 1 10) h 8 1 10) h 9 1 10) h 10 1 6)) (m := 6) rfl (show zn σ + 8 + 6 < zbg from hbg)) (zwl_q (by exact (⟨zwR hn8, trivial⟩ : _ ∧ True))) (zwl_m (by exact (⟨zwR hn8, trivial⟩ : _ ∧ True))) ?_
  show zF G mX8_init (d + 1) 72 [(0, zR h)] [zR (zn (zmk1 (zmk1 (zmk1 (zmk1 (zmk1 (zmk1 (zmk1 (zmk1 σ h 3 1 4) h 4 1 10) h 5 1 30) h 6 1 10) h 7 1 10) h 8 1 10) h 9 1 10) h 10 1 6)), zR h] (znw (zmk1 (zmk1 (zmk1 (zmk1 (zmk1 (zmk1 (zmk1 (zmk1 σ h 3 1 4) h 4 1 10) h 5 1 30) h 6 1 10) h 7 1 10) h 8 1 10) h 9 1 10) h 10 1 6) 1 6 6) _
  refine zF_putR 75 dX8_init_72 rfl pX8_init_36 (zwf_l (Nat.lt_succ_self _)) (znw_k hn8 hk8) (znw_l (σ := (zmk1 (zmk1 (zmk1 (zmk1 (zmk1 (zmk1 (zmk1 (zmk1 σ h 3 1 4) h 4 1 10) h 5 1 30) h 6 1 10) h 7 1 10) h 8 1 10) h 9 1 10) h 10 1 6)) hn8) ?_
  show zF G mX8_init (d + 1) 75 [(0, zR h)] [] (zmk1 (zmk1 (zmk1 (zmk1 (zmk1 (zmk1 (zmk1 (zmk1 (zmk1 σ h 3 1 4) h 4 1 10) h 5 1 30) h 6 1 10) h 7 1 10) h 8 1 10) h 9 1 10) h 10 1 6) h 11 1 6) _
  have hk9 : zkd (zmk1 (zmk1 (zmk1 (zmk1 (zmk1 (zmk1 (zmk1 (zmk1 (zmk1 σ h 3 1 4) h 4 1 10) h 5 1 30) h 6 1 10) h 7 1 10) h 8 1 10) h 9 1 10) h 10 1 6) h 11 1 6) h = (0, 8) := zmk_k hn8 hk8
  have hn9 : h < zn (zmk1 (zmk1 (zmk1 (zmk1 (zmk1 (zmk1 (zmk1 (zmk1 (zmk1 σ h 3 1 4) h 4 1 10) h 5 1 30) h 6 1 10) h 7 1 10) h 8 1 10) h 9 1 10) h 10 1 6) h 11 1 6) := zmk_l (σ := (zmk1 (zmk1 (zmk1 (zmk1 (zmk1 (zmk1 (zmk1 (zmk1 σ h 3 1 4) h 4 1 10) h 5 1 30) h 6 1 10) h 7 1 10) h 8 1 10) h 9 1 10) h 10 1 6)) hn8
  refine zF_aload_n 76 dX8_init_75 rfl rfl ?_
  refine zF_bipush 78 dX8_init_76 rfl (by decide) ?_
  refine zF_newarray 80 dX8_init_78 rfl (Or.inl ⟨rfl, rfl⟩) (zi1 152 rfl rfl) (by omega) (by omega) (zmk_bg (σ := (zmk1 (zmk1 (zmk1 (zmk1 (zmk1 (zmk1 (zmk1 (zmk1 (zmk1 σ h 3 1 4) h 4 1 10) h 5 1 30) h 6 1 10) h 7 1 10) h 8 1 10) h 9 1 10) h 10 1 6) h 11 1 6)) (m := 5) rfl (show zn σ + 9 + 5 < zbg from hbg)) (zwl_q (by exact (⟨zwR hn9, trivial⟩ : _ ∧ True))) (zwl_m (by exact (⟨zwR hn9, trivial⟩ : _ ∧ True))) ?_
  show zF G mX8_init (d + 1) 80 [(0, zR h)] [zR (zn (zmk1 (zmk1 (zmk1 (zmk1 (zmk1 (zmk1 (zmk1 (zmk1 (zmk1 σ h 3 1 4) h 4 1 10) h 5 1 30) h 6 1 10) h 7 1 10) h 8 1 10) h 9 1 10) h 10 1 6) h 11 1 6)), zR h] (znw (zmk1 (zmk1 (zmk1 (zmk1 (zmk1 (zmk1 (zmk1 (zmk1 (zmk1 σ h 3 1 4) h 4 1 10) h 5 1 30) h 6 1 10) h 7 1 10) h 8 1 10) h 9 1 10) h 10 1 6) h 11 1 6) 1 6 6) _
  refine zF_putR 83 dX8_init_80 rfl pX8_init_39 (zwf_l (Nat.lt_succ_self _)) (znw_k hn9 hk9) (znw_l (σ := (zmk1 (zmk1 (zmk1 (zmk1 (zmk1 (zmk1 (zmk1 (zmk1 (zmk1 σ h 3 1 4) h 4 1 10) h 5 1 30) h 6 1 10) h 7 1 10) h 8 1 10) h 9 1 10) h 10 1 6) h 11 1 6)) hn9) ?_
  show zF G mX8_init (d + 1) 83 [(0, zR h)] [] (zmk1 (zmk1 (zmk1 (zmk1 (zmk1 (zmk1 (zmk1 (zmk1 (zmk1 (zmk1 σ h 3 1 4) h 4 1 10) h 5 1 30) h 6 1 10) h 7 1 10) h 8 1 10) h 9 1 10) h 10 1 6) h 11 1 6) h 12 1 6) _
  have hk10 : zkd (zmk1 (zmk1 (zmk1 (zmk1 (zmk1 (zmk1 (zmk1 (zmk1 (zmk1 (zmk1 σ h 3 1 4) h 4 1 10) h 5 1 30) h 6 1 10) h 7 1 10) h 8 1 10) h 9 1 10) h 10 1 6) h 11 1 6) h 12 1 6) h = (0, 8) := zmk_k hn9 hk9
  have hn10 : h < zn (zmk1 (zmk1 (zmk1 (zmk1 (zmk1 (zmk1 (zmk1 (zmk1 (zmk1 (zmk1 σ h 3 1 4) h 4 1 10) h 5 1 30) h 6 1 10) h 7 1 10) h 8 1 10) h 9 1 10) h 10 1 6) h 11 1 6) h 12 1 6) := zmk_l (σ := (zmk1 (zmk1 (zmk1 (zmk1 (zmk1 (zmk1 (zmk1 (zmk1 (zmk1 σ h 3 1 4) h 4 1 10) h 5 1 30) h 6 1 10) h 7 1 10) h 8 1 10) h 9 1 10) h 10 1 6) h 11 1 6)) hn9
  refine zF_aload_n 84 dX8_init_83 rfl rfl ?_
  refine zF_bipush 86 dX8_init_84 rfl (by decide) ?_
  refine zF_newarray 88 dX8_init_86 rfl (Or.inl ⟨rfl, rfl⟩) (zi1 152 rfl rfl) (by omega) (by omega) (zmk_bg (σ := (zmk1 (zmk1 (zmk1 (zmk1 (zmk1 (zmk1 (zmk1 (zmk1 (zmk1 (zmk1 σ h 3 1 4) h 4 1 10) h 5 1 30) h 6 1 10) h 7 1 10) h 8 1 10) h 9 1 10) h 10 1 6) h 11 1 6) h 12 1 6)) (m := 4) rfl (show zn σ + 10 + 4 < zbg from hbg)) (zwl_q (by exact (⟨zwR hn10, trivial⟩ : _ ∧ True))) (zwl_m (by exact (⟨zwR hn10, trivial⟩ : _ ∧ True))) ?_
  show zF G mX8_init (d + 1) 88 [(0, zR h)] [zR (zn (zmk1 (zmk1 (zmk1 (zmk1 (zmk1 (zmk1 (zmk1 (zmk1 (zmk1 (zmk1 σ h 3 1 4) h 4 1 10) h 5 1 30) h 6 1 10) h 7 1 10) h 8 1 10) h 9 1 10) h 10 1 6) h 11 1 6) h 12 1 6)), zR h] (znw (zmk1 (zmk1 (zmk1 (zmk1 (zmk1 (zmk1 (zmk1 (zmk1 (zmk1 (zmk1 σ h 3 1 4) h 4 1 10) h 5 1 30) h 6 1 10) h 7 1 10) h 8 1 10) h 9 1 10) h 10 1 6) h 11 1 6) h 12 1 6) 1 24 24) _
  refine zF_putR 91 dX8_init_88 rfl pX8_init_42 (zwf_l (Nat.lt_succ_self _)) (znw_k hn10 hk10) (znw_l (σ := (zmk1 (zmk1 (zmk1 (zmk1 (zmk1 (zmk1 (zmk1 (zmk1 (zmk1 (zmk1 σ h 3 1 4) h 4 1 10) h 5 1 30) h 6 1 10) h 7 1 10) h 8 1 10) h 9 1 10) h 10 1 6) h 11 1 6) h 12 1 6)) hn10) ?_
  show zF G mX8_init (d + 1) 91 [(0, zR h)] [] (zmk1 (zmk1 (zmk1 (zmk1 (zmk1 (zmk1 (zmk1 (zmk1 (zmk1 (zmk1 (zmk1 σ h 3 1 4) h 4 1 10) h 5 1 30) h 6 1 10) h 7 1 10) h 8 1 10) h 9 1 10) h 10 1 6) h 11 1 6) h 12 1 6) h 13 1 24) _
  have hk11 : zkd (zmk1 (zmk1 (zmk1 (zmk1 (zmk1 (zmk1 (zmk1 (zmk1 (zmk1 (zmk1 (zmk1 σ h 3 1 4) h 4 1 10) h 5 1 30) h 6 1 10) h 7 1 10) h 8 1 10) h 9 1 10) h 10 1 6) h 11 1 6) h 12 1 6) h 13 1 24) h = (0, 8) := zmk_k hn10 hk10
  have hn11 : h < zn (zmk1 (zmk1 (zmk1 (zmk1 (zmk1 (zmk1 (zmk1 (zmk1 (zmk1 (zmk1 (zmk1 σ h 3 1 4) h 4 1 10) h 5 1 30) h 6 1 10) h 7 1 10) h 8 1 10) h 9 1 10) h 10 1 6) h 11 1 6) h 12 1 6) h 13 1 24) := zmk_l (σ := (zmk1 (zmk1 (zmk1 (zmk1 (zmk1 (zmk1 (zmk1 (zmk1 (zmk1 (zmk1 σ h 3 1 4) h 4 1 10) h 5 1 30) h 6 1 10) h 7 1 10) h 8 1 10) h 9 1 10) h 10 1 6) h 11 1 6) h 12 1 6)) hn10
  refine zF_aload_n 92 dX8_init_91 rfl rfl ?_
  refine zF_iconst 93 dX8_init_92 rfl ?_
  refine zF_newarray 95 dX8_init_93 rfl (Or.inl ⟨rfl, rfl⟩) (zi1 152 rfl rfl) (by omega) (by omega) (zmk_bg (σ := (zmk1 (zmk1 (zmk1 (zmk1 (zmk1 (zmk1 (zmk1 (zmk1 (zmk1 (zmk1 (zmk1 σ h 3 1 4) h 4 1 10) h 5 1 30) h 6 1 10) h 7 1 10) h 8 1 10) h 9 1 10) h 10 1 6) h 11 1 6) h 12 1 6) h 13 1 24)) (m := 3) rfl (show zn σ + 11 + 3 < zbg from hbg)) (zwl_q (by exact (⟨zwR hn11, trivial⟩ : _ ∧ True))) (zwl_m (by exact (⟨zwR hn11, trivial⟩ : _ ∧ True))) ?_
  show zF G mX8_init (d + 1) 95 [(0, zR h)] [zR (zn (zmk1 (zmk1 (zmk1 (zmk1 (zmk1 (zmk1 (zmk1 (zmk1 (zmk1 (zmk1 (zmk1 σ h 3 1 4) h 4 1 10) h 5 1 30) h 6 1 10) h 7 1 10) h 8 1 10) h 9 1 10) h 10 1 6) h 11 1 6) h 12 1 6) h 13 1 24)), zR h] (znw (zmk1 (zmk1 (zmk1 (zmk1 (zmk1 (zmk1 (zmk1 (zmk1 (zmk1 (zmk1 (zmk1 σ h 3 1 4) h 4 1 10) h 5 1 30) h 6 1 10) h 7 1 10) h 8 1 10) h 9 1 10) h 10 1 6) h 11 1 6) h 12 1 6) h 13 1 24) 1 4 4) _
  refine zF_putR 98 dX8_init_95 rfl pX8_init_45 (zwf_l (Nat.lt_succ_self _)) (znw_k hn11 hk11) (znw_l (σ := (zmk1 (zmk1 (zmk1 (zmk1 (zmk1 (zmk1 (zmk1 (zmk1 (zmk1 (zmk1 (zmk1 σ h 3 1 4) h 4 1 10) h 5 1 30) h 6 1 10) h 7 1 10) h 8 1 10) h 9 1 10) h 10 1 6) h 11 1 6) h 12 1 6) h 13 1 24)) hn11) ?_
  show zF G mX8_init (d + 1) 98 [(0, zR h)] [] (zmk1 (zmk1 (zmk1 (zmk1 (zmk1 (zmk1 (zmk1 (zmk1 (zmk1 (zmk1 (zmk1 (zmk1 σ h 3 1 4) h 4 1 10) h 5 1 30) h 6 1 10) h 7 1 10) h 8 1 10) h 9 1 10) h 10 1 6) h 11 1 6) h 12 1 6) h 13 1 24) h 14 1 4) _
  have hk12 : zkd (zmk1 (zmk1 (zmk1 (zmk1 (zmk1 (zmk1 (zmk1 (zmk1 (zmk1 (zmk1 (zmk1 (zmk1 σ h 3 1 4) h 4 1 10) h 5 1 30) h 6 1 10) h 7 1 10) h 8 1 10) h 9 1 10) h 10 1 6) h 11 1 6) h 12 1 6) h 13 1 24) h 14 1 4) h = (0, 8) := zmk_k hn11 hk11
  have hn12 : h < zn (zmk1 (zmk1 (zmk1 (zmk1 (zmk1 (zmk1 (zmk1 (zmk1 (zmk1 (zmk1 (zmk1 (zmk1 σ h 3 1 4) h 4 1 10) h 5 1 30) h 6 1 10) h 7 1 10) h 8 1 10) h 9 1 10) h 10 1 6) h 11 1 6) h 12 1 6) h 13 1 24) h 14 1 4) := zmk_l (σ := (zmk1 (zmk1 (zmk1 (zmk1 (zmk1 (zmk1 (zmk1 (zmk1 (zmk1 (zmk1 (zmk1 σ h 3 1 4) h 4 1 10) h 5 1 30) h 6 1 10) h 7 1 10) h 8 1 10) h 9 1 10) h 10 1 6) h 11 1 6) h 12 1 6) h 13 1 24)) hn11
  refine zF_aload_n 99 dX8_init_98 rfl rfl ?_
  refine zF_bipush 101 dX8_init_99 rfl (by decide) ?_
  refine zF_newarray 103 dX8_init_101 rfl (Or.inl ⟨rfl, rfl⟩) (zi1 152 rfl rfl) (by omega) (by omega) (zmk_bg (σ := (zmk1 (zmk1 (zmk1 (zmk1 (zmk1 (zmk1 (zmk1 (zmk1 (zmk1 (zmk1 (zmk1 (zmk1 σ h 3 1 4) h 4 1 10) h 5 1 30) h 6 1 10) h 7 1 10) h 8 1 10) h 9 1 10) h 10 1 6) h 11 1 6) h 12 1 6) h 13 1 24) h 14 1 4)) (m := 2) rfl (show zn σ + 12 + 2 < zbg from hbg)) (zwl_q (by exact (⟨zwR hn12, trivial⟩ : _ ∧ True))) (zwl_m (by exact (⟨zwR hn12, trivial⟩ : _ ∧ True))) ?_
  show zF G mX8_init (d + 1) 103 [(0, zR h)] [zR (zn (zmk1 (zmk1 (zmk1 (zmk1 (zmk1 (zmk1 (zmk1 (zmk1 (zmk1 (zmk1 (zmk1 (zmk1 σ h 3 1 4) h 4 1 10) h 5 1 30) h 6 1 10) h 7 1 10) h 8 1 10) h 9 1 10) h 10 1 6) h 11 1 6) h 12 1 6) h 13 1 24) h 14 1 4)), zR h] (znw (zmk1 (zmk1 (zmk1 (zmk1 (zmk1 (zmk1 (zmk1 (zmk1 (zmk1 (zmk1 (zmk1 (zmk1 σ h 3 1 4) h 4 1 10) h 5 1 30) h 6 1 10) h 7 1 10) h 8 1 10) h 9 1 10) h 10 1 6) h 11 1 6) h 12 1 6) h 13 1 24) h 14 1 4) 1 100 100) _
  refine zF_putR 106 dX8_init_103 rfl pX8_init_48 (zwf_l (Nat.lt_succ_self _)) (znw_k hn12 hk12) (znw_l (σ := (zmk1 (zmk1 (zmk1 (zmk1 (zmk1 (zmk1 (zmk1 (zmk1 (zmk1 (zmk1 (zmk1 (zmk1 σ h 3 1 4) h 4 1 10) h 5 1 30) h 6 1 10) h 7 1 10) h 8 1 10) h 9 1 10) h 10 1 6) h 11 1 6) h 12 1 6) h 13 1 24) h 14 1 4)) hn12) ?_
  show zF G mX8_init (d + 1) 106 [(0, zR h)] [] (zmk1 (zmk1 (zmk1 (zmk1 (zmk1 (zmk1 (zmk1 (zmk1 (zmk1 (zmk1 (zmk1 (zmk1 (zmk1 σ h 3 1 4) h 4 1 10) h 5 1 30) h 6 1 10) h 7 1 10) h 8 1 10) h 9 1 10) h 10 1 6) h 11 1 6) h 12 1 6) h 13 1 24) h 14 1 4) h 15 1 100) _
  have hk13 : zkd (zmk1 (zmk1 (zmk1 (zmk1 (zmk1 (zmk1 (zmk1 (zmk1 (zmk1 (zmk1 (zmk1 (zmk1 (zmk1 σ h 3 1 4) h 4 1 10) h 5 1 30) h 6 1 10) h 7 1 10) h 8 1 10) h 9 1 10) h 10 1 6) h 11 1 6) h 12 1 6) h 13 1 24) h 14 1 4) h 15 1 100) h = (0, 8) := zmk_k hn12 hk12
  have hn13 : h < zn (zmk1 (zmk1 (zmk1 (zmk1 (zmk1 (zmk1 (zmk1 (zmk1 (zmk1 (zmk1 (zmk1 (zmk1 (zmk1 σ h 3 1 4) h 4 1 10) h 5 1 30) h 6 1 10) h 7 1 10) h 8 1 10) h 9 1 10) h 10 1 6) h 11 1 6) h 12 1 6) h 13 1 24) h 14 1 4) h 15 1 100) := zmk_l (σ := (zmk1 (zmk1 (zmk1 (zmk1 (zmk1 (zmk1 (zmk1 (zmk1 (zmk1 (zmk1 (zmk1 (zmk1 σ h 3 1 4) h 4 1 10) h 5 1 30) h 6 1 10) h 7 1 10) h 8 1 10) h 9 1 10) h 10 1 6) h 11 1 6) h 12 1 6) h 13 1 24) h 14 1 4)) hn12
  exact zF_return dX8_init_106 rfl (⟨rfl, rfl⟩)
def kX10 (σ : zMem) (h a b : Nat) : zMem := (zsr (zsr (zmk1 (zmk1 σ h 2 1 70) h 3 1 6) h ((0 : Nat) : Int) (some a)) h ((1 : Nat) : Int) (some b))
theorem zt_X10_init {h a b : Nat} (hbg : zn σ + 3 < zbg) (hk : zkd σ h = (0, 10)) (hn : h < zn σ) (ha : a < zn σ) (hb : b < zn σ) : zE G mX10_init (d + 1) [zR h, zR a, zR b] σ (fun r σ1 => r = .inl none ∧ σ1 = kX10 σ h a b) := by
  refine zE_of rfl (by simp [zcat]) (Nat.le_of_ble_eq_true rfl) ?_
  show zF G mX10_init (d + 1) 0 [(0, zR h), (1, zR a), (2, zR b)] [] σ _
  refine zF_aload_n 1 dX10_init_0 rfl rfl ?_
  refine zF_obj 4 dX10_init_1 rfl (zi2 6 rfl rfl) (zi1 33 rfl rfl) (zi1 34 rfl rfl) (by omega) (Nat.le_of_ble_eq_true rfl) ?_
  show zF G mX10_init (d + 1) 4 [(0, zR h), (1, zR a), (2, zR b)] [] σ _
  refine zF_aload_n 5 dX10_init_4 rfl rfl ?_
  refine zF_bipush 7 dX10_init_5 rfl (by decide) ?_
  refine zF_newarray 9 dX10_init_7 rfl (Or.inl ⟨rfl, rfl⟩) (zi1 152 rfl rfl) (by omega) (by omega) (zmk_bg (σ := σ) (m := 3) rfl (show zn σ + 0 + 3 < zbg from hbg)) (zwl_q (by exact (⟨zwR hn, zwR ha, zwR hb, trivial⟩ : _ ∧ _ ∧ _ ∧ True))) (zwl_m (by exact (⟨zwR hn, trivial⟩ : _ ∧ True))) ?_
  show zF G mX10_init (d + 1) 9 [(0, zR h), (1, zR a), (2, zR b)] [zR (zn σ), zR h] (znw σ 1 70 70) _
  refine zF_putR 12 dX10_init_9 rfl pX10_init_9 (zwf_l (Nat.lt_succ_self _)) (znw_k hn hk) (znw_l (σ := σ) hn) ?_
  show zF G mX10_init (d + 1) 12 [(0, zR h), (1, zR a), (2, zR b)] [] (zmk1 σ h 2 1 70) _
  have hk1 : zkd (zmk1 σ h 2 1 70) h = (0, 10) := zmk_k hn hk
  have hn1 : h < zn (zmk1 σ h 2 1 70) := zmk_l (σ := σ) hn
  have ha1 : a < zn (zmk1 σ h 2 1 70) := zmk_l (σ := σ) ha
  have hb1 : b < zn (zmk1 σ h 2 1 70) := zmk_l (σ := σ) hb
  refine zF_aload_n 13 dX10_init_12 rfl rfl ?_
  refine zF_bipush 15 dX10_init_13 rfl (by decide) ?_
  refine zF_newarray 17 dX10_init_15 rfl (Or.inl ⟨rfl, rfl⟩) (zi1 152 rfl rfl) (by omega) (by omega) (zmk_bg (σ := (zmk1 σ h 2 1 70)) (m := 2) rfl (show zn σ + 1 + 2 < zbg from hbg)) (zwl_q (by exact (⟨zwR hn1, zwR ha1, zwR hb1, trivial⟩ : _ ∧ _ ∧ _ ∧ True))) (zwl_m (by exact (⟨zwR hn1, trivial⟩ : _ ∧ True))) ?_
  show zF G mX10_init (d + 1) 17 [(0, zR h), (1, zR a), (2, zR b)] [zR (zn (zmk1 σ h 2 1 70)), zR h] (znw (zmk1 σ h 2 1 70) 1 6 6) _
  refine zF_putR 20 dX10_init_17 rfl pX10_init_15 (zwf_l (Nat.lt_succ_self _)) (znw_k hn1 hk1) (znw_l (σ := (zmk1 σ h 2 1 70)) hn1) ?_
  show zF G mX10_init (d + 1) 20 [(0, zR h), (1, zR a), (2, zR b)] [] (zmk1 (zmk1 σ h 2 1 70) h 3 1 6) _
  have hk2 : zkd (zmk1 (zmk1 σ h 2 1 70) h 3 1 6) h = (0, 10) := zmk_k hn1 hk1
  have hn2 : h < zn (zmk1 (zmk1 σ h 2 1 70) h 3 1 6) := zmk_l (σ := (zmk1 σ h 2 1 70)) hn1
  have ha2 : a < zn (zmk1 (zmk1 σ h 2 1 70) h 3 1 6) := zmk_l (σ := (zmk1 σ h 2 1 70)) ha1
  have hb2 : b < zn (zmk1 (zmk1 σ h 2 1 70) h 3 1 6) := zmk_l (σ := (zmk1 σ h 2 1 70)) hb1
  refine zF_aload_n 21 dX10_init_20 rfl rfl ?_
  refine zF_aload_n 22 dX10_init_21 rfl rfl ?_
  refine zF_putR 25 dX10_init_22 rfl pX10_init_18 (zwf_l ha2) hk2 hn2 ?_
  refine zF_aload_n 26 dX10_init_25 rfl rfl ?_
  refine zF_aload_n 27 dX10_init_26 rfl rfl ?_
  refine zF_putR 30 dX10_init_27 rfl pX10_init_22 (zwf_l hb2) hk2 hn2 ?_
  exact zF_return dX10_init_30 rfl (⟨rfl, rfl⟩)
def kX5 (σ : zMem) (h a b c : Nat) : zMem := (zsr (zsr (zsr (zmk1 (zmk1 (zmk1 (zmk1 (zmk1 (zmk1 (zmk1 (zmk1 (zmk1 σ h 5 1 4) h 6 1 4) h 7 1 6) h 8 1 16) h 9 1 16) h 10 1 16) h 11 1 4) h 12 1 5) h 13 1 5) h ((0 : Nat) : Int) (some a)) h ((1 : Nat) : Int) (some b)) h ((2 : Nat) : Int) (some c))
theorem zt_X5_init {h a b c : Nat} (hbg : zn σ + 10 < zbg) (hk : zkd σ h = (0, 5)) (hn : h < zn σ) (ha : a < zn σ) (hb : b < zn σ) (hc : c < zn σ) : zE G mX5_init (d + 1) [zR h, zR a, zR b, zR c] σ (fun r σ1 => r = .inl none ∧ σ1 = kX5 σ h a b c) := by
  refine zE_of rfl (by simp [zcat]) (Nat.le_of_ble_eq_true rfl) ?_
  show zF G mX5_init (d + 1) 0 [(0, zR h), (1, zR a), (2, zR b), (3, zR c)] [] σ _
  refine zF_aload_n 1 dX5_init_0 rfl rfl ?_
  refine zF_obj 4 dX5_init_1 rfl (zi2 25 rfl rfl) (zi1 33 rfl rfl) (zi1 34 rfl rfl) (by omega) (Nat.le_of_ble_eq_true rfl) ?_
  show zF G mX5_init (d + 1) 4 [(0, zR h), (1, zR a), (2, zR b), (3, zR c)] [] σ _
  refine zF_aload_n 5 dX5_init_4 rfl rfl ?_
  refine zF_iconst 6 dX5_init_5 rfl ?_
  refine zF_newarray 8 dX5_init_6 rfl (Or.inl ⟨rfl, rfl⟩) (zi1 152 rfl rfl) (by omega) (by omega) (zmk_bg (σ := σ) (m := 10) rfl (show zn σ + 0 + 10 < zbg from hbg)) (zwl_q (by exact (⟨zwR hn, zwR ha, zwR hb, zwR hc, trivial⟩ : _ ∧ _ ∧ _ ∧ _ ∧ True))) (zwl_m (by exact (⟨zwR hn, trivial⟩ : _ ∧ True))) ?_
  show zF G mX5_init (d + 1) 8 [(0, zR h), (1, zR a), (2, zR b), (3, zR c)] [zR (zn σ), zR h] (znw σ 1 4 4) _
  refine zF_putR 11 dX5_init_8 rfl pX5_init_9 (zwf_l (Nat.lt_succ_self _)) (znw_k hn hk) (znw_l (σ := σ) hn) ?_
  show zF G mX5_init (d + 1) 11 [(0, zR h), (1, zR a), (2, zR b), (3, zR c)] [] (zmk1 σ h 5 1 4) _
  have hk1 : zkd (zmk1 σ h 5 1 4) h = (0, 5) := zmk_k hn hk
  have hn1 : h < zn (zmk1 σ h 5 1 4) := zmk_l (σ := σ) hn
  have ha1 : a < zn (zmk1 σ h 5 1 4) := zmk_l (σ := σ) ha
  have hb1 : b < zn (zmk1 σ h 5 1 4) := zmk_l (σ := σ) hb
  have hc1 : c < zn (zmk1 σ h 5 1 4) := zmk_l (σ := σ) hc
  refine zF_aload_n 12 dX5_init_11 rfl rfl ?_
  refine zF_iconst 13 dX5_init_12 rfl ?_
  refine zF_newarray 15 dX5_init_13 rfl (Or.inl ⟨rfl, rfl⟩) (zi1 152 rfl rfl) (by omega) (by omega) (zmk_bg (σ := (zmk1 σ h 5 1 4)) (m := 9) rfl (show zn σ + 1 + 9 < zbg from hbg)) (zwl_q (by exact (⟨zwR hn1, zwR ha1, zwR hb1, zwR hc1, trivial⟩ : _ ∧ _ ∧ _ ∧ _ ∧ True))) (zwl_m (by exact (⟨zwR hn1, trivial⟩ : _ ∧ True))) ?_
  show zF G mX5_init (d + 1) 15 [(0, zR h), (1, zR a), (2, zR b), (3, zR c)] [zR (zn (zmk1 σ h 5 1 4)), zR h] (znw (zmk1 σ h 5 1 4) 1 4 4) _
  refine zF_putR 18 dX5_init_15 rfl pX5_init_15 (zwf_l (Nat.lt_succ_self _)) (znw_k hn1 hk1) (znw_l (σ := (zmk1 σ h 5 1 4)) hn1) ?_
  show zF G mX5_init (d + 1) 18 [(0, zR h), (1, zR a), (2, zR b), (3, zR c)] [] (zmk1 (zmk1 σ h 5 1 4) h 6 1 4) _
  have hk2 : zkd (zmk1 (zmk1 σ h 5 1 4) h 6 1 4) h = (0, 5) := zmk_k hn1 hk1
  have hn2 : h < zn (zmk1 (zmk1 σ h 5 1 4) h 6 1 4) := zmk_l (σ := (zmk1 σ h 5 1 4)) hn1
  have ha2 : a < zn (zmk1 (zmk1 σ h 5 1 4) h 6 1 4) := zmk_l (σ := (zmk1 σ h 5 1 4)) ha1
  have hb2 : b < zn (zmk1 (zmk1 σ h 5 1 4) h 6 1 4) := zmk_l (σ := (zmk1 σ h 5 1 4)) hb1
  have hc2 : c < zn (zmk1 (zmk1 σ h 5 1 4) h 6 1 4) := zmk_l (σ := (zmk1 σ h 5 1 4)) hc1
  refine zF_aload_n 19 dX5_init_18 rfl rfl ?_
  refine zF_bipush 21 dX5_init_19 rfl (by decide) ?_
  refine zF_newarray 23 dX5_init_21 rfl (Or.inl ⟨rfl, rfl⟩) (zi1 152 rfl rfl) (by omega) (by omega) (zmk_bg (σ := (zmk1 (zmk1 σ h 5 1 4) h 6 1 4)) (m := 8) rfl (show zn σ + 2 + 8 < zbg from hbg)) (zwl_q (by exact (⟨zwR hn2, zwR ha2, zwR hb2, zwR hc2, trivial⟩ : _ ∧ _ ∧ _ ∧ _ ∧ True))) (zwl_m (by exact (⟨zwR hn2, trivial⟩ : _ ∧ True))) ?_
  show zF G mX5_init (d + 1) 23 [(0, zR h), (1, zR a), (2, zR b), (3, zR c)] [zR (zn (zmk1 (zmk1 σ h 5 1 4) h 6 1 4)), zR h] (znw (zmk1 (zmk1 σ h 5 1 4) h 6 1 4) 1 6 6) _
  refine zF_putR 26 dX5_init_23 rfl pX5_init_18 (zwf_l (Nat.lt_succ_self _)) (znw_k hn2 hk2) (znw_l (σ := (zmk1 (zmk1 σ h 5 1 4) h 6 1 4)) hn2) ?_
  show zF G mX5_init (d + 1) 26 [(0, zR h), (1, zR a), (2, zR b), (3, zR c)] [] (zmk1 (zmk1 (zmk1 σ h 5 1 4) h 6 1 4) h 7 1 6) _
  have hk3 : zkd (zmk1 (zmk1 (zmk1 σ h 5 1 4) h 6 1 4) h 7 1 6) h = (0, 5) := zmk_k hn2 hk2
  have hn3 : h < zn (zmk1 (zmk1 (zmk1 σ h 5 1 4) h 6 1 4) h 7 1 6) := zmk_l (σ := (zmk1 (zmk1 σ h 5 1 4) h 6 1 4)) hn2
  have ha3 : a < zn (zmk1 (zmk1 (zmk1 σ h 5 1 4) h 6 1 4) h 7 1 6) := zmk_l (σ := (zmk1 (zmk1 σ h 5 1 4) h 6 1 4)) ha2
  have hb3 : b < zn (zmk1 (zmk1 (zmk1 σ h 5 1 4) h 6 1 4) h 7 1 6) := zmk_l (σ := (zmk1 (zmk1 σ h 5 1 4) h 6 1 4)) hb2
  have hc3 : c < zn (zmk1 (zmk1 (zmk1 σ h 5 1 4) h 6 1 4) h 7 1 6) := zmk_l (σ := (zmk1 (zmk1 σ h 5 1 4) h 6 1 4)) hc2
  refine zF_aload_n 27 dX5_init_26 rfl rfl ?_
  refine zF_bipush 29 dX5_init_27 rfl (by decide) ?_
  refine zF_newarray 31 dX5_init_29 rfl (Or.inl ⟨rfl, rfl⟩) (zi1 152 rfl rfl) (by omega) (by omega) (zmk_bg (σ := (zmk1 (zmk1 (zmk1 σ h 5 1 4) h 6 1 4) h 7 1 6)) (m := 7) rfl (show zn σ + 3 + 7 < zbg from hbg)) (zwl_q (by exact (⟨zwR hn3, zwR ha3, zwR hb3, zwR hc3, trivial⟩ : _ ∧ _ ∧ _ ∧ _ ∧ True))) (zwl_m (by exact (⟨zwR hn3, trivial⟩ : _ ∧ True))) ?_
  show zF G mX5_init (d + 1) 31 [(0, zR h), (1, zR a), (2, zR b), (3, zR c)] [zR (zn (zmk1 (zmk1 (zmk1 σ h 5 1 4) h 6 1 4) h 7 1 6)), zR h] (znw (zmk1 (zmk1 (zmk1 σ h 5 1 4) h 6 1 4) h 7 1 6) 1 16 16) _
  refine zF_putR 34 dX5_init_31 rfl pX5_init_21 (zwf_l (Nat.lt_succ_self _)) (znw_k hn3 hk3) (znw_l (σ := (zmk1 (zmk1 (zmk1 σ h 5 1 4) h 6 1 4) h 7 1 6)) hn3) ?_
  show zF G mX5_init (d + 1) 34 [(0, zR h), (1, zR a), (2, zR b), (3, zR c)] [] (zmk1 (zmk1 (zmk1 (zmk1 σ h 5 1 4) h 6 1 4) h 7 1 6) h 8 1 16) _
  have hk4 : zkd (zmk1 (zmk1 (zmk1 (zmk1 σ h 5 1 4) h 6 1 4) h 7 1 6) h 8 1 16) h = (0, 5) := zmk_k hn3 hk3
  have hn4 : h < zn (zmk1 (zmk1 (zmk1 (zmk1 σ h 5 1 4) h 6 1 4) h 7 1 6) h 8 1 16) := zmk_l (σ := (zmk1 (zmk1 (zmk1 σ h 5 1 4) h 6 1 4) h 7 1 6)) hn3
  have ha4 : a < zn (zmk1 (zmk1 (zmk1 (zmk1 σ h 5 1 4) h 6 1 4) h 7 1 6) h 8 1 16) := zmk_l (σ := (zmk1 (zmk1 (zmk1 σ h 5 1 4) h 6 1 4) h 7 1 6)) ha3
  have hb4 : b < zn (zmk1 (zmk1 (zmk1 (zmk1 σ h 5 1 4) h 6 1 4) h 7 1 6) h 8 1 16) := zmk_l (σ := (zmk1 (zmk1 (zmk1 σ h 5 1 4) h 6 1 4) h 7 1 6)) hb3
  have hc4 : c < zn (zmk1 (zmk1 (zmk1 (zmk1 σ h 5 1 4) h 6 1 4) h 7 1 6) h 8 1 16) := zmk_l (σ := (zmk1 (zmk1 (zmk1 σ h 5 1 4) h 6 1 4) h 7 1 6)) hc3
  refine zF_aload_n 35 dX5_init_34 rfl rfl ?_
  refine zF_bipush 37 dX5_init_35 rfl (by decide) ?_
  refine zF_newarray 39 dX5_init_37 rfl (Or.inl ⟨rfl, rfl⟩) (zi1 152 rfl rfl) (by omega) (by omega) (zmk_bg (σ := (zmk1 (zmk1 (zmk1 (zmk1 σ h 5 1 4) h 6 1 4) h 7 1 6) h 8 1 16)) (m := 6) rfl (show zn σ + 4 + 6 < zbg from hbg)) (zwl_q (by exact (⟨zwR hn4, zwR ha4, zwR hb4, zwR hc4, trivial⟩ : _ ∧ _ ∧ _ ∧ _ ∧ True))) (zwl_m (by exact (⟨zwR hn4, trivial⟩ : _ ∧ True))) ?_
  show zF G mX5_init (d + 1) 39 [(0, zR h), (1, zR a), (2, zR b), (3, zR c)] [zR (zn (zmk1 (zmk1 (zmk1 (zmk1 σ h 5 1 4) h 6 1 4) h 7 1 6) h 8 1 16)), zR h] (znw (zmk1 (zmk1 (zmk1 (zmk1 σ h 5 1 4) h 6 1 4) h 7 1 6) h 8 1 16) 1 16 16) _
  refine zF_putR 42 dX5_init_39 rfl pX5_init_24 (zwf_l (Nat.lt_succ_self _)) (znw_k hn4 hk4) (znw_l (σ := (zmk1 (zmk1 (zmk1 (zmk1 σ h 5 1 4) h 6 1 4) h 7 1 6) h 8 1 16)) hn4) ?_
  show zF G mX5_init (d + 1) 42 [(0, zR h), (1, zR a), (2, zR b), (3, zR c)] [] (zmk1 (zmk1 (zmk1 (zmk1 (zmk1 σ h 5 1 4) h 6 1 4) h 7 1 6) h 8 1 16) h 9 1 16) _
  have hk5 : zkd (zmk1 (zmk1 (zmk1 (zmk1 (zmk1 σ h 5 1 4) h 6 1 4) h 7 1 6) h 8 1 16) h 9 1 16) h = (0, 5) := zmk_k hn4 hk4
  have hn5 : h < zn (zmk1 (zmk1 (zmk1 (zmk1 (zmk1 σ h 5 1 4) h 6 1 4) h 7 1 6) h 8 1 16) h 9 1 16) := zmk_l (σ := (zmk1 (zmk1 (zmk1 (zmk1 σ h 5 1 4) h 6 1 4) h 7 1 6) h 8 1 16)) hn4
  have ha5 : a < zn (zmk1 (zmk1 (zmk1 (zmk1 (zmk1 σ h 5 1 4) h 6 1 4) h 7 1 6) h 8 1 16) h 9 1 16) := zmk_l (σ := (zmk1 (zmk1 (zmk1 (zmk1 σ h 5 1 4) h 6 1 4) h 7 1 6) h 8 1 16)) ha4
  have hb5 : b < zn (zmk1 (zmk1 (zmk1 (zmk1 (zmk1 σ h 5 1 4) h 6 1 4) h 7 1 6) h 8 1 16) h 9 1 16) := zmk_l (σ := (zmk1 (zmk1 (zmk1 (zmk1 σ h 5 1 4) h 6 1 4) h 7 1 6) h 8 1 16)) hb4
  have hc5 : c < zn (zmk1 (zmk1 (zmk1 (zmk1 (zmk1 σ h 5 1 4) h 6 1 4) h 7 1 6) h 8 1 16) h 9 1 16) := zmk_l (σ := (zmk1 (zmk1 (zmk1 (zmk1 σ h 5 1 4) h 6 1 4) h 7 1 6) h 8 1 16)) hc4
  refine zF_aload_n 43 dX5_init_42 rfl rfl ?_
  refine zF_bipush 45 dX5_init_43 rfl (by decide) ?_
  refine zF_newarray 47 dX5_init_45 rfl (Or.inl ⟨rfl, rfl⟩) (zi1 152 rfl rfl) (by omega) (by omega) (zmk_bg (σ := (zmk1 (zmk1 (zmk1 (zmk1 (zmk1 σ h 5 1 4) h 6 1 4) h 7 1 6) h 8 1 16) h 9 1 16)) (m := 5) rfl (show zn σ + 5 + 5 < zbg from hbg)) (zwl_q (by exact (⟨zwR hn5, zwR ha5, zwR hb5, zwR hc5, trivial⟩ : _ ∧ _ ∧ _ ∧ _ ∧ True))) (zwl_m (by exact (⟨zwR hn5, trivial⟩ : _ ∧ True))) ?_
  show zF G mX5_init (d + 1) 47 [(0, zR h), (1, zR a), (2, zR b), (3, zR c)] [zR (zn (zmk1 (zmk1 (zmk1 (zmk1 (zmk1 σ h 5 1 4) h 6 1 4) h 7 1 6) h 8 1 16) h 9 1 16)), zR h] (znw (zmk1 (zmk1 (zmk1 (zmk1 (zmk1 σ h 5 1 4) h 6 1 4) h 7 1 6) h 8 1 16) h 9 1 16) 1 16 16) _
  refine zF_putR 50 dX5_init_47 rfl pX5_init_27 (zwf_l (Nat.lt_succ_self _)) (znw_k hn5 hk5) (znw_l (σ := (zmk1 (zmk1 (zmk1 (zmk1 (zmk1 σ h 5 1 4) h 6 1 4) h 7 1 6) h 8 1 16) h 9 1 16)) hn5) ?_
  show zF G mX5_init (d + 1) 50 [(0, zR h), (1, zR a), (2, zR b), (3, zR c)] [] (zmk1 (zmk1 (zmk1 (zmk1 (zmk1 (zmk1 σ h 5 1 4) h 6 1 4) h 7 1 6) h 8 1 16) h 9 1 16) h 10 1 16) _
  have hk6 : zkd (zmk1 (zmk1 (zmk1 (zmk1 (zmk1 (zmk1 σ h 5 1 4) h 6 1 4) h 7 1 6) h 8 1 16) h 9 1 16) h 10 1 16) h = (0, 5) := zmk_k hn5 hk5
  have hn6 : h < zn (zmk1 (zmk1 (zmk1 (zmk1 (zmk1 (zmk1 σ h 5 1 4) h 6 1 4) h 7 1 6) h 8 1 16) h 9 1 16) h 10 1 16) := zmk_l (σ := (zmk1 (zmk1 (zmk1 (zmk1 (zmk1 σ h 5 1 4) h 6 1 4) h 7 1 6) h 8 1 16) h 9 1 16)) hn5
  have ha6 : a < zn (zmk1 (zmk1 (zmk1 (zmk1 (zmk1 (zmk1 σ h 5 1 4) h 6 1 4) h 7 1 6) h 8 1 16) h 9 1 16) h 10 1 16) := zmk_l (σ := (zmk1 (zmk1 (zmk1 (zmk1 (zmk1 σ h 5 1 4) h 6 1 4) h 7 1 6) h 8 1 16) h 9 1 16)) ha5
  have hb6 : b < zn (zmk1 (zmk1 (zmk1 (zmk1 (zmk1 (zmk1 σ h 5 1 4) h 6 1 4) h 7 1 6) h 8 1 16) h 9 1 16) h 10 1 16) := zmk_l (σ := (zmk1 (zmk1 (zmk1 (zmk1 (zmk1 σ h 5 1 4) h 6 1 4) h 7 1 6) h 8 1 16) h 9 1 16)) hb5
  have hc6 : c < zn (zmk1 (zmk1 (zmk1 (zmk1 (zmk1 (zmk1 σ h 5 1 4) h 6 1 4) h 7 1 6) h 8 1 16) h 9 1 16) h 10 1 16) := zmk_l (σ := (zmk1 (zmk1 (zmk1 (zmk1 (zmk1 σ h 5 1 4) h 6 1 4) h 7 1 6) h 8 1 16) h 9 1 16)) hc5
  refine zF_aload_n 51 dX5_init_50 rfl rfl ?_
  refine zF_iconst 52 dX5_init_51 rfl ?_
  refine zF_newarray 54 dX5_init_52 rfl (Or.inl ⟨rfl, rfl⟩) (zi1 152 rfl rfl) (by omega) (by omega) (zmk_bg (σ := (zmk1 (zmk1 (zmk1 (zmk1 (zmk1 (zmk1 σ h 5 1 4) h 6 1 4) h 7 1 6) h 8 1 16) h 9 1 16) h 10 1 16)) (m := 4) rfl (show zn σ + 6 + 4 < zbg from hbg)) (zwl_q (by exact (⟨zwR hn6, zwR ha6, zwR hb6, zwR hc6, trivial⟩ : _ ∧ _ ∧ _ ∧ _ ∧ True))) (zwl_m (by exact (⟨zwR hn6, trivial⟩ : _ ∧ True))) ?_
  show zF G mX5_init (d + 1) 54 [(0, zR h), (1, zR a), (2, zR b), (3, zR c)] [zR (zn (zmk1 (zmk1 (zmk1 (zmk1 (zmk1 (zmk1 σ h 5 1 4) h 6 1 4) h 7 1 6) h 8 1 16) h 9 1 16) h 10 1 16)), zR h] (znw (zmk1 (zmk1 (zmk1 (zmk1 (zmk1 (zmk1 σ h 5 1 4) h 6 1 4) h 7 1 6) h 8 1 16) h 9 1 16) h 10 1 16) 1 4 4) _
  refine zF_putR 57 dX5_init_54 rfl pX5_init_30 (zwf_l (Nat.lt_succ_self _)) (znw_k hn6 hk6) (znw_l (σ := (zmk1 (zmk1 (zmk1 (zmk1 (zmk1 (zmk1 σ h 5 1 4) h 6 1 4) h 7 1 6) h 8 1 16) h 9 1 16) h 10 1 16)) hn6) ?_
  show zF G mX5_init (d + 1) 57 [(0, zR h), (1, zR a), (2, zR b), (3, zR c)] [] (zmk1 (zmk1 (zmk1 (zmk1 (zmk1 (zmk1 (zmk1 σ h 5 1 4) h 6 1 4) h 7 1 6) h 8 1 16) h 9 1 16) h 10 1 16) h 11 1 4) _
  have hk7 : zkd (zmk1 (zmk1 (zmk1 (zmk1 (zmk1 (zmk1 (zmk1 σ h 5 1 4) h 6 1 4) h 7 1 6) h 8 1 16) h 9 1 16) h 10 1 16) h 11 1 4) h = (0, 5) := zmk_k hn6 hk6
  have hn7 : h < zn (zmk1 (zmk1 (zmk1 (zmk1 (zmk1 (zmk1 (zmk1 σ h 5 1 4) h 6 1 4) h 7 1 6) h 8 1 16) h 9 1 16) h 10 1 16) h 11 1 4) := zmk_l (σ := (zmk1 (zmk1 (zmk1 (zmk1 (zmk1 (zmk1 σ h 5 1 4) h 6 1 4) h 7 1 6) h 8 1 16) h 9 1 16) h 10 1 16)) hn6
  have ha7 : a < zn (zmk1 (zmk1 (zmk1 (zmk1 (zmk1 (zmk1 (zmk1 σ h 5 1 4) h 6 1 4) h 7 1 6) h 8 1 16) h 9 1 16) h 10 1 16) h 11 1 4) := zmk_l (σ := (zmk1 (zmk1 (zmk1 (zmk1 (zmk1 (zmk1 σ h 5 1 4) h 6 1 4) h 7 1 6) h 8 1 16) h 9 1 16) h 10 1 16)) ha6
  have hb7 : b < zn (zmk1 (zmk1 (zmk1 (zmk1 (zmk1 (zmk1 (zmk1 σ h 5 1 4) h 6 1 4) h 7 1 6) h 8 1 16) h 9 1 16) h 10 1 16) h 11 1 4) := zmk_l (σ := (zmk1 (zmk1 (zmk1 (zmk1 (zmk1 (zmk1 σ h 5 1 4) h 6 1 4) h 7 1 6) h 8 1 16) h 9 1 16) h 10 1 16)) hb6
  have hc7 : c < zn (zmk1 (zmk1 (zmk1 (zmk1 (zmk1 (zmk1 (zmk1 σ h 5 1 4) h 6 1 4) h 7 1 6) h 8 1 16) h 9 1 16) h 10 1 16) h 11 1 4) := zmk_l (σ := (zmk1 (zmk1 (zmk1 (zmk1 (zmk1 (zmk1 σ h 5 1 4) h 6 1 4) h 7 1 6) h 8 1 16) h 9 1 16) h 10 1 16)) hc6
  refine zF_aload_n 58 dX5_init_57 rfl rfl ?_
  refine zF_iconst 59 dX5_init_58 rfl ?_
  refine zF_newarray 61 dX5_init_59 rfl (Or.inl ⟨rfl, rfl⟩) (zi1 152 rfl rfl) (by omega) (by omega) (zmk_bg (σ := (zmk1 (zmk1 (zmk1 (zmk1 (zmk1 (zmk1 (zmk1 σ h 5 1 4) h 6 1 4) h 7 1 6) h 8 1 16) h 9 1 16) h 10 1 16) h 11 1 4)) (m := 3) rfl (show zn σ + 7 + 3 < zbg from hbg)) (zwl_q (by exact (⟨zwR hn7, zwR ha7, zwR hb7, zwR hc7, trivial⟩ : _ ∧ _ ∧ _ ∧ _ ∧ True))) (zwl_m (by exact (⟨zwR hn7, trivial⟩ : _ ∧ True))) ?_
  show zF G mX5_init (d + 1) 61 [(0, zR h), (1, zR a), (2, zR b), (3, zR c)] [zR (zn (zmk1 (zmk1 (zmk1 (zmk1 (zmk1 (zmk1 (zmk1 σ h 5 1 4) h 6 1 4) h 7 1 6) h 8 1 16) h 9 1 16) h 10 1 16) h 11 1 4)), zR h] (znw (zmk1 (zmk1 (zmk1 (zmk1 (zmk1 (zmk1 (zmk1 σ h 5 1 4) h 6 1 4) h 7 1 6) h 8 1 16) h 9 1 16) h 10 1 16) h 11 1 4) 1 5 5) _
  refine zF_putR 64 dX5_init_61 rfl pX5_init_33 (zwf_l (Nat.lt_succ_self _)) (znw_k hn7 hk7) (znw_l (σ := (zmk1 (zmk1 (zmk1 (zmk1 (zmk1 (zmk1 (zmk1 σ h 5 1 4) h 6 1 4) h 7 1 6) h 8 1 16) h 9 1 16) h 10 1 16) h 11 1 4)) hn7) ?_
  show zF G mX5_init (d + 1) 64 [(0, zR h), (1, zR a), (2, zR b), (3, zR c)] [] (zmk1 (zmk1 (zmk1 (zmk1 (zmk1 (zmk1 (zmk1 (zmk1 σ h 5 1 4) h 6 1 4) h 7 1 6) h 8 1 16) h 9 1 16) h 10 1 16) h 11 1 4) h 12 1 5) _
  have hk8 : zkd (zmk1 (zmk1 (zmk1 (zmk1 (zmk1 (zmk1 (zmk1 (zmk1 σ h 5 1 4) h 6 1 4) h 7 1 6) h 8 1 16) h 9 1 16) h 10 1 16) h 11 1 4) h 12 1 5) h = (0, 5) := zmk_k hn7 hk7
  have hn8 : h < zn (zmk1 (zmk1 (zmk1 (zmk1 (zmk1 (zmk1 (zmk1 (zmk1 σ h 5 1 4) h 6 1 4) h 7 1 6) h 8 1 16) h 9 1 16) h 10 1 16) h 11 1 4) h 12 1 5) := zmk_l (σ := (zmk1 (zmk1 (zmk1 (zmk1 (zmk1 (zmk1 (zmk1 σ h 5 1 4) h 6 1 4) h 7 1 6) h 8 1 16) h 9 1 16) h 10 1 16) h 11 1 4)) hn7
  have ha8 : a < zn (zmk1 (zmk1 (zmk1 (zmk1 (zmk1 (zmk1 (zmk1 (zmk1 σ h 5 1 4) h 6 1 4) h 7 1 6) h 8 1 16) h 9 1 16) h 10 1 16) h 11 1 4) h 12 1 5) := zmk_l (σ := (zmk1 (zmk1 (zmk1 (zmk1 (zmk1 (zmk1 (zmk1 σ h 5 1 4) h 6 1 4) h 7 1 6) h 8 1 16) h 9 1 16) h 10 1 16) h 11 1 4)) ha7
  have hb8 : b < zn (zmk1 (zmk1 (zmk1 (zmk1 (zmk1 (zmk1 (zmk1 (zmk1 σ h 5 1 4) h 6 1 4) h 7 1 6) h 8 1 16) h 9 1 16) h 10 1 16) h 11 1 4) h 12 1 5) := zmk_l (σ := (zmk1 (zmk1 (zmk1 (zmk1 (zmk1 (zmk1 (zmk1 σ h 5 1 4) h 6 1 4) h 7 1 6) h 8 1 16) h 9 1 16) h 10 1 16) h 11 1 4)) hb7
  have hc8 : c < zn (zmk1 (zmk1 (zmk1 (zmk1 (zmk1 (zmk1 (zmk1 (zmk1 σ h 5 1 4) h 6 1 4) h 7 1 6) h 8 1 16) h 9 1 16) h 10 1 16) h 11 1 4) h 12 1 5) := zmk_l (σ := (zmk1 (zmk1 (zmk1 (zmk1 (zmk1 (zmk1 (zmk1 σ h 5 1 4) h 6 1 4) h 7 1 6) h 8 1 16) h 9 1 16) h 10 1 16) h 11 1 4)) hc7
  refine zF_aload_n 65 dX5_init_64 rfl rfl ?_
  refine zF_iconst 66 dX5_init_65 rfl ?_
  refine zF_newarray 68 dX5_init_66 rfl (Or.inl ⟨rfl, rfl⟩) (zi1 152 rfl rfl) (by omega) (by omega) (zmk_bg (σ := (zmk1 (zmk1 (zmk1 (zmk1 (zmk1 (zmk1 (zmk1 (zmk1 σ h 5 1 4) h 6 1 4) h 7 1 6) h 8 1 16) h 9 1 16) h 10 1 16) h 11 1 4) h 12 1 5)) (m := 2) rfl (show zn σ + 8 + 2 < zbg from hbg)) (zwl_q (by exact (⟨zwR hn8, zwR ha8, zwR hb8, zwR hc8, trivial⟩ : _ ∧ _ ∧ _ ∧ _ ∧ True))) (zwl_m (by exact (⟨zwR hn8, trivial⟩ : _ ∧ True))) ?_
  show zF G mX5_init (d + 1) 68 [(0, zR h), (1, zR a), (2, zR b), (3, zR c)] [zR (zn (zmk1 (zmk1 (zmk1 (zmk1 (zmk1 (zmk1 (zmk1 (zmk1 σ h 5 1 4) h 6 1 4) h 7 1 6) h 8 1 16) h 9 1 16) h 10 1 16) h 11 1 4) h 12 1 5)), zR h] (znw (zmk1 (zmk1 (zmk1 (zmk1 (zmk1 (zmk1 (zmk1 (zmk1 σ h 5 1 4) h 6 1 4) h 7 1 6) h 8 1 16) h 9 1 16) h 10 1 16) h 11 1 4) h 12 1 5) 1 5 5) _
  refine zF_putR 71 dX5_init_68 rfl pX5_init_36 (zwf_l (Nat.lt_succ_self _)) (znw_k hn8 hk8) (znw_l (σ := (zmk1 (zmk1 (zmk1 (zmk1 (zmk1 (zmk1 (zmk1 (zmk1 σ h 5 1 4) h 6 1 4) h 7 1 6) h 8 1 16) h 9 1 16) h 10 1 16) h 11 1 4) h 12 1 5)) hn8) ?_
  show zF G mX5_init (d + 1) 71 [(0, zR h), (1, zR a), (2, zR b), (3, zR c)] [] (zmk1 (zmk1 (zmk1 (zmk1 (zmk1 (zmk1 (zmk1 (zmk1 (zmk1 σ h 5 1 4) h 6 1 4) h 7 1 6) h 8 1 16) h 9 1 16) h 10 1 16) h 11 1 4) h 12 1 5) h 13 1 5) _
  have hk9 : zkd (zmk1 (zmk1 (zmk1 (zmk1 (zmk1 (zmk1 (zmk1 (zmk1 (zmk1 σ h 5 1 4) h 6 1 4) h 7 1 6) h 8 1 16) h 9 1 16) h 10 1 16) h 11 1 4) h 12 1 5) h 13 1 5) h = (0, 5) := zmk_k hn8 hk8
  have hn9 : h < zn (zmk1 (zmk1 (zmk1 (zmk1 (zmk1 (zmk1 (zmk1 (zmk1 (zmk1 σ h 5 1 4) h 6 1 4) h 7 1 6) h 8 1 16) h 9 1 16) h 10 1 16) h 11 1 4) h 12 1 5) h 13 1 5) := zmk_l (σ := (zmk1 (zmk1 (zmk1 (zmk1 (zmk1 (zmk1 (zmk1 (zmk1 σ h 5 1 4) h 6 1 4) h 7 1 6) h 8 1 16) h 9 1 16) h 10 1 16) h 11 1 4) h 12 1 5)) hn8
  have ha9 : a < zn (zmk1 (zmk1 (zmk1 (zmk1 (zmk1 (zmk1 (zmk1 (zmk1 (zmk1 σ h 5 1 4) h 6 1 4) h 7 1 6) h 8 1 16) h 9 1 16) h 10 1 16) h 11 1 4) h 12 1 5) h 13 1 5) := zmk_l (σ := (zmk1 (zmk1 (zmk1 (zmk1 (zmk1 (zmk1 (zmk1 (zmk1 σ h 5 1 4) h 6 1 4) h 7 1 6) h 8 1 16) h 9 1 16) h 10 1 16) h 11 1 4) h 12 1 5)) ha8
  have hb9 : b < zn (zmk1 (zmk1 (zmk1 (zmk1 (zmk1 (zmk1 (zmk1 (zmk1 (zmk1 σ h 5 1 4) h 6 1 4) h 7 1 6) h 8 1 16) h 9 1 16) h 10 1 16) h 11 1 4) h 12 1 5) h 13 1 5) := zmk_l (σ := (zmk1 (zmk1 (zmk1 (zmk1 (zmk1 (zmk1 (zmk1 (zmk1 σ h 5 1 4) h 6 1 4) h 7 1 6) h 8 1 16) h 9 1 16) h 10 1 16) h 11 1 4) h 12 1 5)) hb8
  have hc9 : c < zn (zmk1 (zmk1 (zmk1 (zmk1 (zmk1 (zmk1 (zmk1 (zmk1 (zmk1 σ h 5 1 4) h 6 1 4) h 7 1 6) h 8 1 16) h 9 1 16) h 10 1 16) h 11 1 4) h 12 1 5) h 13 1 5) := zmk_l (σ := (zmk1 (zmk1 (zmk1 (zmk1 (zmk1 (zmk1 (zmk1 (zmk1 σ h 5 1 4) h 6 1 4) h 7 1 6) h 8 1 16) h 9 1 16) h 10 1 16) h 11 1 4) h 12 1 5)) hc8
  refine zF_aload_n 72 dX5_init_71 rfl rfl ?_
  refine zF_aload_n 73 dX5_init_72 rfl rfl ?_
  refine zF_putR 76 dX5_init_73 rfl pX5_init_39 (zwf_l ha9) hk9 hn9 ?_
  refine zF_aload_n 77 dX5_init_76 rfl rfl ?_
  refine zF_aload_n 78 dX5_init_77 rfl rfl ?_
  refine zF_putR 81 dX5_init_78 rfl pX5_init_43 (zwf_l hb9) hk9 hn9 ?_
  refine zF_aload_n 82 dX5_init_81 rfl rfl ?_
  refine zF_aload_n 83 dX5_init_82 rfl rfl ?_
  refine zF_putR 86 dX5_init_83 rfl pX5_init_47 (zwf_l hc9) hk9 hn9 ?_
  exact zF_return dX5_init_86 rfl (⟨rfl, rfl⟩)
def kX3 (σ : zMem) (h a b c : Nat) : zMem := (zsr (zsr (zsr (zmk1 σ h 3 1 10) h ((0 : Nat) : Int) (some a)) h ((1 : Nat) : Int) (some b)) h ((2 : Nat) : Int) (some c))
theorem zt_X3_init {h a b c : Nat} (hbg : zn σ + 2 < zbg) (hk : zkd σ h = (0, 3)) (hn : h < zn σ) (ha : a < zn σ) (hb : b < zn σ) (hc : c < zn σ) : zE G mX3_init (d + 1) [zR h, zR a, zR b, zR c] σ (fun r σ1 => r = .inl none ∧ σ1 = kX3 σ h a b c) := by
  refine zE_of rfl (by simp [zcat]) (Nat.le_of_ble_eq_true rfl) ?_
  show zF G mX3_init (d + 1) 0 [(0, zR h), (1, zR a), (2, zR b), (3, zR c)] [] σ _
  refine zF_aload_n 1 dX3_init_0 rfl rfl ?_
  refine zF_obj 4 dX3_init_1 rfl (zi2 74 rfl rfl) (zi1 33 rfl rfl) (zi1 34 rfl rfl) (by omega) (Nat.le_of_ble_eq_true rfl) ?_
  show zF G mX3_init (d + 1) 4 [(0, zR h), (1, zR a), (2, zR b), (3, zR c)] [] σ _
  refine zF_aload_n 5 dX3_init_4 rfl rfl ?_
  refine zF_bipush 7 dX3_init_5 rfl (by decide) ?_
  refine zF_newarray 9 dX3_init_7 rfl (Or.inl ⟨rfl, rfl⟩) (zi1 152 rfl rfl) (by omega) (by omega) (zmk_bg (σ := σ) (m := 2) rfl (show zn σ + 0 + 2 < zbg from hbg)) (zwl_q (by exact (⟨zwR hn, zwR ha, zwR hb, zwR hc, trivial⟩ : _ ∧ _ ∧ _ ∧ _ ∧ True))) (zwl_m (by exact (⟨zwR hn, trivial⟩ : _ ∧ True))) ?_
  show zF G mX3_init (d + 1) 9 [(0, zR h), (1, zR a), (2, zR b), (3, zR c)] [zR (zn σ), zR h] (znw σ 1 10 10) _
  refine zF_putR 12 dX3_init_9 rfl pX3_init_9 (zwf_l (Nat.lt_succ_self _)) (znw_k hn hk) (znw_l (σ := σ) hn) ?_
  show zF G mX3_init (d + 1) 12 [(0, zR h), (1, zR a), (2, zR b), (3, zR c)] [] (zmk1 σ h 3 1 10) _
  have hk1 : zkd (zmk1 σ h 3 1 10) h = (0, 3) := zmk_k hn hk
  have hn1 : h < zn (zmk1 σ h 3 1 10) := zmk_l (σ := σ) hn
  have ha1 : a < zn (zmk1 σ h 3 1 10) := zmk_l (σ := σ) ha
  have hb1 : b < zn (zmk1 σ h 3 1 10) := zmk_l (σ := σ) hb
  have hc1 : c < zn (zmk1 σ h 3 1 10) := zmk_l (σ := σ) hc
  refine zF_aload_n 13 dX3_init_12 rfl rfl ?_
  refine zF_aload_n 14 dX3_init_13 rfl rfl ?_
  refine zF_putR 17 dX3_init_14 rfl pX3_init_15 (zwf_l ha1) hk1 hn1 ?_
  refine zF_aload_n 18 dX3_init_17 rfl rfl ?_
  refine zF_aload_n 19 dX3_init_18 rfl rfl ?_
  refine zF_putR 22 dX3_init_19 rfl pX3_init_19 (zwf_l hb1) hk1 hn1 ?_
  refine zF_aload_n 23 dX3_init_22 rfl rfl ?_
  refine zF_aload_n 24 dX3_init_23 rfl rfl ?_
  refine zF_putR 27 dX3_init_24 rfl pX3_init_23 (zwf_l hc1) hk1 hn1 ?_
  exact zF_return dX3_init_27 rfl (⟨rfl, rfl⟩)
def kX9 (σ : zMem) (h a : Nat) : zMem := (zsr σ h ((0 : Nat) : Int) (some a))
theorem zt_X9_init {h a : Nat} (hbg : zn σ + 1 < zbg) (hk : zkd σ h = (0, 9)) (hn : h < zn σ) (ha : a < zn σ) : zE G mX9_init (d + 1) [zR h, zR a] σ (fun r σ1 => r = .inl none ∧ σ1 = kX9 σ h a) := by
  refine zE_of rfl (by simp [zcat]) (Nat.le_of_ble_eq_true rfl) ?_
  show zF G mX9_init (d + 1) 0 [(0, zR h), (1, zR a)] [] σ _
  refine zF_aload_n 1 dX9_init_0 rfl rfl ?_
  refine zF_obj 4 dX9_init_1 rfl (zi2 121 rfl rfl) (zi1 33 rfl rfl) (zi1 34 rfl rfl) (by omega) (Nat.le_of_ble_eq_true rfl) ?_
  show zF G mX9_init (d + 1) 4 [(0, zR h), (1, zR a)] [] σ _
  refine zF_aload_n 5 dX9_init_4 rfl rfl ?_
  refine zF_aload_n 6 dX9_init_5 rfl rfl ?_
  refine zF_putR 9 dX9_init_6 rfl pX9_init_9 (zwf_l ha) hk hn ?_
  exact zF_return dX9_init_9 rfl (⟨rfl, rfl⟩)
def kX7 (σ : zMem) (h a b c e : Nat) : zMem := (zsr (zsr (zsr (zsr σ h ((0 : Nat) : Int) (some a)) h ((1 : Nat) : Int) (some b)) h ((2 : Nat) : Int) (some c)) h ((3 : Nat) : Int) (some e))
theorem zt_X7_init {h a b c e : Nat} (hbg : zn σ + 1 < zbg) (hk : zkd σ h = (0, 7)) (hn : h < zn σ) (ha : a < zn σ) (hb : b < zn σ) (hc : c < zn σ) (he : e < zn σ) : zE G mX7_init (d + 1) [zR h, zR a, zR b, zR c, zR e] σ (fun r σ1 => r = .inl none ∧ σ1 = kX7 σ h a b c e) := by
  refine zE_of rfl (by simp [zcat]) (Nat.le_of_ble_eq_true rfl) ?_
  show zF G mX7_init (d + 1) 0 [(0, zR h), (1, zR a), (2, zR b), (3, zR c), (4, zR e)] [] σ _
  refine zF_aload_n 1 dX7_init_0 rfl rfl ?_
  refine zF_obj 4 dX7_init_1 rfl (zi2 178 rfl rfl) (zi1 33 rfl rfl) (zi1 34 rfl rfl) (by omega) (Nat.le_of_ble_eq_true rfl) ?_
  show zF G mX7_init (d + 1) 4 [(0, zR h), (1, zR a), (2, zR b), (3, zR c), (4, zR e)] [] σ _
  refine zF_aload_n 5 dX7_init_4 rfl rfl ?_
  refine zF_aload_n 6 dX7_init_5 rfl rfl ?_
  refine zF_putR 9 dX7_init_6 rfl pX7_init_9 (zwf_l ha) hk hn ?_
  refine zF_aload_n 10 dX7_init_9 rfl rfl ?_
  refine zF_aload_n 11 dX7_init_10 rfl rfl ?_
  refine zF_putR 14 dX7_init_11 rfl pX7_init_15 (zwf_l hb) hk hn ?_
  refine zF_aload_n 15 dX7_init_14 rfl rfl ?_
  refine zF_aload_n 16 dX7_init_15 rfl rfl ?_
  refine zF_putR 19 dX7_init_16 rfl pX7_init_19 (zwf_l hc) hk hn ?_
  refine zF_aload_n 20 dX7_init_19 rfl rfl ?_
  refine zF_aload 22 dX7_init_20 rfl rfl ?_
  refine zF_putR 25 dX7_init_22 rfl pX7_init_23 (zwf_l he) hk hn ?_
  exact zF_return dX7_init_25 rfl (⟨rfl, rfl⟩)
def kJ5 (σ : zMem) (h : Nat) : zMem := (zsi (zmk1 σ h 0 2 16) h ((1 : Nat) : Int) 0)
theorem zt_J5_init_d00df {h : Nat} (hG : zOS G) (hbg : zn σ + 2 < zbg) (hk : zkd σ h = (0, 13)) (hn : h < zn σ) : zE G mJ5_init_d00df (d + 1) [zR h, zI 16] σ (fun r σ1 => r = .inl none ∧ σ1 = kJ5 σ h) := by
  refine zE_of rfl (by simp [zcat]) (Nat.le_of_ble_eq_true rfl) ?_
  show zF G mJ5_init_d00df (d + 1) 0 [(0, zR h), (1, zI 16)] [] σ _
  refine zF_aload_n 1 dJ5_init_d00df_0 rfl rfl ?_
  refine zF_obj 4 dJ5_init_d00df_1 rfl (zi1 43 rfl rfl) (zi1 33 rfl rfl) (zi1 34 rfl rfl) (by omega) (Nat.le_of_ble_eq_true rfl) ?_
  show zF G mJ5_init_d00df (d + 1) 4 [(0, zR h), (1, zI 16)] [] σ _
  refine zF_getsI 7 dJ5_init_d00df_4 rfl fJ5_18 hG.2.1 ?_
  refine zF_if_eq 25 10 dJ5_init_d00df_7 rfl rfl (by first | decide | assumption | (constructor <;> omega)) (fun c1 => ?_) (fun c1 => ?_)
  · exact absurd c1 (by decide)
  · refine zF_aload_n 11 dJ5_init_d00df_10 rfl rfl ?_
    refine zF_iload_n 12 dJ5_init_d00df_11 rfl rfl ?_
    refine zF_newarray 14 dJ5_init_d00df_12 rfl (Or.inr (Or.inl ⟨rfl, rfl⟩)) (zi1 64 rfl rfl) (by omega) (by omega) (zmk_bg (σ := σ) (m := 2) rfl (show zn σ + 0 + 2 < zbg from hbg)) (zwl_q (by exact (⟨zwR hn, trivial, trivial⟩ : _ ∧ _ ∧ True))) (zwl_m (by exact (⟨zwR hn, trivial⟩ : _ ∧ True))) ?_
    show zF G mJ5_init_d00df (d + 1) 14 [(0, zR h), (1, zI 16)] [zR (zn σ), zR h] (znw σ 2 16 16) _
    refine zF_putR 17 dJ5_init_d00df_14 rfl pJ5_init_d00df_15 (zwf_l (Nat.lt_succ_self _)) (znw_k hn hk) (znw_l (σ := σ) hn) ?_
    show zF G mJ5_init_d00df (d + 1) 17 [(0, zR h), (1, zI 16)] [] (zmk1 σ h 0 2 16) _
    have hk1 : zkd (zmk1 σ h 0 2 16) h = (0, 13) := zmk_k hn hk
    have hn1 : h < zn (zmk1 σ h 0 2 16) := zmk_l (σ := σ) hn
    refine zF_aload_n 18 dJ5_init_d00df_17 rfl rfl ?_
    refine zF_iconst 19 dJ5_init_d00df_18 rfl ?_
    refine zF_putB0 22 dJ5_init_d00df_19 rfl pJ5_init_d00df_22 hk1 hn1 ?_
    refine zF_goto 38 dJ5_init_d00df_22 rfl ?_
    exact zF_return dJ5_init_d00df_38 rfl (⟨rfl, rfl⟩)
theorem kJ4s_1 : zCL RJ4 1 mJ5_init_d00df 1 := ⟨zi1 40 rfl rfl, wJ5_init_d00df, zi1 2 rfl rfl, ⟨by decide, by decide, by decide +kernel⟩, by decide⟩
theorem zt_J4_init_da8c8 {h : Nat} (hG : zOS G) (hb : zn σ + 2 < zbg) (hk : zkd σ h = (0, 13)) (hn : h < zn σ) : zE G mJ4_init_da8c8 (d + 2) [zR h] σ (fun r σ1 => r = .inl none ∧ σ1 = kJ5 σ h) := by
  refine zE_of rfl (by simp [zcat]) (Nat.le_of_ble_eq_true rfl) ?_
  show zF G mJ4_init_da8c8 (d + 2) 0 [(0, zR h)] [] σ _
  refine zF_aload_n 1 dJ4_init_da8c8_0 rfl rfl ?_
  refine zF_bipush 3 dJ4_init_da8c8_1 rfl (by decide) ?_
  refine zF_callIn 6 (d2 := d + 1) (as := [zI 16]) (rest := []) dJ4_init_da8c8_3 rfl kJ4s_1 rfl iJ5_init_d00df (Nat.le_refl _) rfl rfl (Nat.le_of_ble_eq_true rfl) (⟨zwR hn, trivial⟩) trivial (zE.mono (zt_J5_init_d00df hG hb hk hn) fun r σ1 hh => ⟨hh.1, ?_⟩)
  exact zF_return dJ4_init_da8c8_6 rfl ⟨rfl, hh.2⟩
end ZNB

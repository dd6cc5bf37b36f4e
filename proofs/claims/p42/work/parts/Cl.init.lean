/-! the law's own chain, made: its parts, still empty -/
section ZI1
variable {G : zG} {M : zMeth} {d pc : Nat} {ls : List (Nat × zV)} {st : List zV} {σ σ1 : zMem} {Q : zRes → zMem → Prop} {E : Nat → Nat} {N : Int → Int}
theorem nL_20 : zNC RL 20 12 := ⟨_, _, _, _, zCX12, zi5 47 rfl rfl, zi5 48 rfl rfl, zi1 25 rfl rfl, by decide, by decide⟩
def zmkM (σ : zMem) (h k n m : Nat) : zMem := zsr (zmm σ n m) h ((k : Nat) : Int) (some (zn σ))
def kO1 (σ : zMem) (h : Nat) : zMem := zmk1 σ h 6 6 4
def kO2 (σ : zMem) (h : Nat) : zMem := zmk1 (kO1 σ h) h 7 6 10
def kO3 (σ : zMem) (h : Nat) : zMem := zmk1 (kO2 σ h) h 8 6 6
def kO4 (σ : zMem) (h : Nat) : zMem := zmkM (kO3 σ h) h 9 6 5
def kO5 (σ : zMem) (h : Nat) : zMem := zmkM (kO4 σ h) h 10 4 6
def kO6 (σ : zMem) (h : Nat) : zMem := zmk1 (kO5 σ h) h 11 1 4
def kO7 (σ : zMem) (h : Nat) : zMem := zmk1 (kO6 σ h) h 12 6 60
theorem kO_n (σ : zMem) (h : Nat) : zn (kO1 σ h) = zn σ + 1 ∧ zn (kO2 σ h) = zn σ + 2 ∧ zn (kO3 σ h) = zn σ + 3 ∧ zn (kO4 σ h) = zn σ + 10 ∧ zn (kO5 σ h) = zn σ + 15 ∧ zn (kO6 σ h) = zn σ + 16 ∧ zn (kO7 σ h) = zn σ + 17 := ⟨rfl, rfl, rfl, rfl, rfl, rfl, rfl⟩
theorem kO_kd (σ : zMem) (h x : Nat) : zkd (kO7 σ h) x = if x = zn σ + 16 then (6, 60) else if x = zn σ + 15 then (1, 4) else if x = zn σ + 10 then (6, 4) else if zn σ + 10 < x ∧ x ≤ zn σ + 10 + 4 then (1, 6) else if x = zn σ + 3 then (6, 6) else if zn σ + 3 < x ∧ x ≤ zn σ + 3 + 6 then (1, 5) else if x = zn σ + 2 then (6, 6) else if x = zn σ + 1 then (6, 10) else if x = zn σ then (6, 4) else zkd σ x := rfl
theorem kO_ia (σ : zMem) (h x : Nat) (j : Int) : zia (kO7 σ h) x j = if x = zn σ + 16 then 0 else if x = zn σ + 15 then 0 else if zn σ + 10 ≤ x ∧ x ≤ zn σ + 10 + 4 then 0 else if zn σ + 3 ≤ x ∧ x ≤ zn σ + 3 + 6 then 0 else if x = zn σ + 2 then 0 else if x = zn σ + 1 then 0 else if x = zn σ then 0 else zia σ x j := rfl
theorem kO_ra (σ : zMem) (h x : Nat) (j : Int) : zra (kO7 σ h) x j = if x = h ∧ j = ((12 : Nat) : Int) then some (zn σ + 16) else if x = zn σ + 16 then none else if x = h ∧ j = ((11 : Nat) : Int) then some (zn σ + 15) else if x = zn σ + 15 then none else if x = h ∧ j = ((10 : Nat) : Int) then some (zn σ + 10) else if x = zn σ + 10 then (if 0 ≤ j ∧ j < 4 then some (zn σ + 10 + 1 + j.toNat) else none) else if zn σ + 10 < x ∧ x ≤ zn σ + 10 + 4 then none else if x = h ∧ j = ((9 : Nat) : Int) then some (zn σ + 3) else if x = zn σ + 3 then (if 0 ≤ j ∧ j < 6 then some (zn σ + 3 + 1 + j.toNat) else none) else if zn σ + 3 < x ∧ x ≤ zn σ + 3 + 6 then none else if x = h ∧ j = ((8 : Nat) : Int) then some (zn σ + 2) else if x = zn σ + 2 then none else if x = h ∧ j = ((7 : Nat) : Int) then some (zn σ + 1) else if x = zn σ + 1 then none else if x = h ∧ j = ((6 : Nat) : Int) then some (zn σ) else if x = zn σ then none else zra σ x j := rfl
theorem zt_X12_init {h : Nat} (hAO : zAO G) (hbg : zn σ + 17 < zbg) (hk : zkd σ h = (0, 12)) (hn : h < zn σ) : zE G mX12_init (d + 1) [zR h] σ (fun r σ1 => r = .inl none ∧ σ1 = kO7 σ h) := by
  refine zE_of rfl (by simp [zcat]) (Nat.le_of_ble_eq_true rfl) ?_
  show zF G mX12_init (d + 1) 0 [(0, zR h)] [] σ _
  obtain ⟨n1, n2, n3, n4, n5, n6, n7⟩ := kO_n σ h
  refine zF_aload_n 1 dX12_init_0 rfl rfl ?_
  refine zF_obj 4 dX12_init_1 rfl (zi5 52 rfl rfl) (zi1 33 rfl rfl) (zi1 34 rfl rfl) (by omega) (Nat.le_of_ble_eq_true rfl) ?_
  show zF G mX12_init (d + 1) 4 [(0, zR h)] [] σ _
  refine zF_aload_n 5 dX12_init_4 rfl rfl ?_
  refine zF_iconst 6 dX12_init_5 rfl ?_
  refine zF_anewA 9 dX12_init_6 rfl (zi5 53 rfl rfl) hAO (by decide) (by decide) (by omega) (zwl_q (by exact (⟨zwR (show h < zn σ by omega), trivial⟩ : _ ∧ True))) (zwl_m (by exact (⟨zwR (show h < zn σ by omega), trivial⟩ : _ ∧ True))) ?_
  refine zF_putR 12 dX12_init_9 rfl pX12_init_9 (zwf_l (Nat.lt_succ_self _)) (znw_k (by omega) hk) (znw_l (σ := σ) (by omega)) ?_
  have hk1 : zkd (kO1 σ h) h = (0, 12) := zmk_k (by omega) hk
  show zF G mX12_init (d + 1) 12 [(0, zR h)] [] (kO1 σ h) _
  refine zF_aload_n 13 dX12_init_12 rfl rfl ?_
  refine zF_bipush 15 dX12_init_13 rfl (by decide) ?_
  refine zF_anewA 18 dX12_init_15 rfl (zi5 53 rfl rfl) hAO (by decide) (by decide) (by omega) (zwl_q (by exact (⟨zwR (show h < zn (kO1 σ h) by omega), trivial⟩ : _ ∧ True))) (zwl_m (by exact (⟨zwR (show h < zn (kO1 σ h) by omega), trivial⟩ : _ ∧ True))) ?_
  refine zF_putR 21 dX12_init_18 rfl pX12_init_15 (zwf_l (Nat.lt_succ_self _)) (znw_k (by omega) hk1) (znw_l (σ := (kO1 σ h)) (by omega)) ?_
  have hk2 : zkd (kO2 σ h) h = (0, 12) := zmk_k (by omega) hk1
  show zF G mX12_init (d + 1) 21 [(0, zR h)] [] (kO2 σ h) _
  refine zF_aload_n 22 dX12_init_21 rfl rfl ?_
  refine zF_bipush 24 dX12_init_22 rfl (by decide) ?_
  refine zF_anewA 27 dX12_init_24 rfl (zi5 53 rfl rfl) hAO (by decide) (by decide) (by omega) (zwl_q (by exact (⟨zwR (show h < zn (kO2 σ h) by omega), trivial⟩ : _ ∧ True))) (zwl_m (by exact (⟨zwR (show h < zn (kO2 σ h) by omega), trivial⟩ : _ ∧ True))) ?_
  refine zF_putR 30 dX12_init_27 rfl pX12_init_18 (zwf_l (Nat.lt_succ_self _)) (znw_k (by omega) hk2) (znw_l (σ := (kO2 σ h)) (by omega)) ?_
  have hk3 : zkd (kO3 σ h) h = (0, 12) := zmk_k (by omega) hk2
  show zF G mX12_init (d + 1) 30 [(0, zR h)] [] (kO3 σ h) _
  refine zF_aload_n 31 dX12_init_30 rfl rfl ?_
  refine zF_bipush 33 dX12_init_31 rfl (by decide) ?_
  refine zF_iconst 34 dX12_init_33 rfl ?_
  refine zF_mnaA 38 (N := 6) (K := 5) dX12_init_34 rfl (zi5 55 rfl rfl) hAO rfl rfl (by decide) (by decide) (by omega) (zwl_q (by exact (⟨zwR (show h < zn (kO3 σ h) by omega), trivial⟩ : _ ∧ True))) (zwl_m (by exact (⟨zwR (show h < zn (kO3 σ h) by omega), trivial⟩ : _ ∧ True))) ?_
  refine zF_putR 41 dX12_init_38 rfl pX12_init_22 (zwf_l (show zn (kO3 σ h) < zn (zmm (kO3 σ h) 6 5) by rw [zn_mm]; omega)) (show zkd (zmm (kO3 σ h) 6 5) h = (0, 12) by rw [zkd_mm, if_neg (by omega), if_neg (by omega)]; exact hk3) (show h < zn (zmm (kO3 σ h) 6 5) by rw [zn_mm]; omega) ?_
  have hk4 : zkd (kO4 σ h) h = (0, 12) := by show zkd (zmm (kO3 σ h) 6 5) h = _; rw [zkd_mm, if_neg (by omega), if_neg (by omega)]; exact hk3
  show zF G mX12_init (d + 1) 41 [(0, zR h)] [] (kO4 σ h) _
  refine zF_aload_n 42 dX12_init_41 rfl rfl ?_
  refine zF_iconst 43 dX12_init_42 rfl ?_
  refine zF_bipush 45 dX12_init_43 rfl (by decide) ?_
  refine zF_mnaA 49 (N := 4) (K := 6) dX12_init_45 rfl (zi5 55 rfl rfl) hAO rfl rfl (by decide) (by decide) (by omega) (zwl_q (by exact (⟨zwR (show h < zn (kO4 σ h) by omega), trivial⟩ : _ ∧ True))) (zwl_m (by exact (⟨zwR (show h < zn (kO4 σ h) by omega), trivial⟩ : _ ∧ True))) ?_
  refine zF_putR 52 dX12_init_49 rfl pX12_init_25 (zwf_l (show zn (kO4 σ h) < zn (zmm (kO4 σ h) 4 6) by rw [zn_mm]; omega)) (show zkd (zmm (kO4 σ h) 4 6) h = (0, 12) by rw [zkd_mm, if_neg (by omega), if_neg (by omega)]; exact hk4) (show h < zn (zmm (kO4 σ h) 4 6) by rw [zn_mm]; omega) ?_
  have hk5 : zkd (kO5 σ h) h = (0, 12) := by show zkd (zmm (kO4 σ h) 4 6) h = _; rw [zkd_mm, if_neg (by omega), if_neg (by omega)]; exact hk4
  show zF G mX12_init (d + 1) 52 [(0, zR h)] [] (kO5 σ h) _
  refine zF_aload_n 53 dX12_init_52 rfl rfl ?_
  refine zF_iconst 54 dX12_init_53 rfl ?_
  refine zF_newarray 56 dX12_init_54 rfl (Or.inl ⟨rfl, rfl⟩) (zi1 152 rfl rfl) (by omega) (by omega) (by omega) (zwl_q (by exact (⟨zwR (show h < zn (kO5 σ h) by omega), trivial⟩ : _ ∧ True))) (zwl_m (by exact (⟨zwR (show h < zn (kO5 σ h) by omega), trivial⟩ : _ ∧ True))) ?_
  refine zF_putR 59 dX12_init_56 rfl pX12_init_28 (zwf_l (Nat.lt_succ_self _)) (znw_k (by omega) hk5) (znw_l (σ := (kO5 σ h)) (by omega)) ?_
  have hk6 : zkd (kO6 σ h) h = (0, 12) := zmk_k (by omega) hk5
  show zF G mX12_init (d + 1) 59 [(0, zR h)] [] (kO6 σ h) _
  refine zF_aload_n 60 dX12_init_59 rfl rfl ?_
  refine zF_bipush 62 dX12_init_60 rfl (by decide) ?_
  refine zF_anewA 65 dX12_init_62 rfl (zi5 53 rfl rfl) hAO (by decide) (by decide) (by omega) (zwl_q (by exact (⟨zwR (show h < zn (kO6 σ h) by omega), trivial⟩ : _ ∧ True))) (zwl_m (by exact (⟨zwR (show h < zn (kO6 σ h) by omega), trivial⟩ : _ ∧ True))) ?_
  refine zF_putR 68 dX12_init_65 rfl pX12_init_31 (zwf_l (Nat.lt_succ_self _)) (znw_k (by omega) hk6) (znw_l (σ := (kO6 σ h)) (by omega)) ?_
  have hk7 : zkd (kO7 σ h) h = (0, 12) := zmk_k (by omega) hk6
  exact zF_return dX12_init_68 rfl ⟨rfl, rfl⟩
end ZI1

/-! the reference: load -/
section ZMV
variable {G : zG} {d : Nat} {σ σ0 : zMem} {hm : Nat} {A : Nat → Nat} {t : Int → Int} {L : Nat} {s : tS} {D : Int → Int}
theorem zt_X12_clear {r : Nat} (hk : zkd σ r = (1, 312)) (hr : r < zn σ) : zE G mX12_clear d [zR r] σ (fun ro σ1 => ro = .inl none ∧ zFr (fun h j => h = r ∧ 0 ≤ j ∧ j < 312) σ σ1 ∧ zia σ1 r = zcz (zia σ r)) := by
  refine zE_of rfl (by simp [zcat]) (Nat.le_of_ble_eq_true rfl) ?_
  show zF G mX12_clear d 0 [(0, zR r)] [] σ _
  refine zF_iconst 1 dX12_clear_0 rfl ?_
  refine zF_istore_n 2 (ls' := [(1, zI 0), (0, zR r)]) dX12_clear_1 rfl (by decide) rfl ?_
  refine zF_locs (ls' := [(1, zI ((0 : Nat) : Int)), (0, zR r)]) ⟨zlI rfl (by first | rfl | omega | (push_cast; omega) | exact congrArg (_ + ·) (zbT (by assumption)) | exact congrArg (_ + ·) (zbF (by assumption)) | exact congrArg (_ + ·) (zbT (by omega)) | exact congrArg (_ + ·) (zbF (by omega)) | exact congrArg (_ + ·) (if_pos (by omega)).symm | exact congrArg (_ + ·) (if_neg (by omega)).symm | exact (if_pos (by omega)).symm | exact (if_neg (by omega)).symm | exact zsub_s (if_pos (by omega)).symm | exact zsub_s0 (if_neg (by omega)).symm | exact zadd0 (if_neg (by omega)).symm | exact zadd0 (zbF (by omega)) | exact (Int.sub_zero _).symm), rfl, trivial⟩ ?_
  refine zF_while (X := Nat) (fun x => 312 - x) (fun x σ2 => x ≤ 312 ∧ zFr (fun h j => h = r ∧ 0 ≤ j ∧ j < 312) σ σ2 ∧ ∀ j, zia σ2 r j = if 0 ≤ j ∧ j < (x : Int) then 0 else zia σ r j) (fun x => [(1, zI ((x : Nat) : Int)), (0, zR r)]) ?_ 0 σ (⟨by omega, zFr.rf, fun j => by rw [if_neg (by omega)]⟩)
  intro x σ2 hI2 ih2
  show zF G mX12_clear d 2 [(1, zI ((x : Nat) : Int)), (0, zR r)] [] σ2 _
  obtain ⟨hx, f2, g2⟩ := hI2
  have hk2 : zkd σ2 r = (1, 312) := by rw [f2.2.1]; exact hk
  have hr2 : r < zn σ2 := by rw [f2.1]; exact hr
  refine zF_iload_n 3 dX12_clear_2 rfl rfl ?_
  refine zF_sipush 6 dX12_clear_3 rfl (by decide) ?_
  refine zF_icmp_ge 19 9 dX12_clear_6 rfl rfl (by first | decide | assumption | (constructor <;> omega)) (by first | decide | assumption | (constructor <;> omega)) (fun c1 => ?_) (fun c1 => ?_)
  · exact zF_return dX12_clear_19 rfl ((by
    have hx9 : x = 312 := by omega
    subst hx9
    exact ⟨rfl, f2, funext g2⟩))
  · refine zF_aload_n 10 dX12_clear_9 rfl rfl ?_
    refine zF_iload_n 11 dX12_clear_10 rfl rfl ?_
    refine zF_iconst 12 dX12_clear_11 rfl ?_
    refine zF_iastore 13 dX12_clear_12 rfl hk2 hr2 (by omega) (by omega) ?_
    refine zF_iinc 16 (ls' := [(1, zI (((x : Nat) : Int) + 1)), (0, zR r)]) dX12_clear_13 rfl rfl rfl (by decide) rfl ?_
    refine zF_goto 2 dX12_clear_16 rfl ?_
    exact zF_locs (ls' := [(1, zI (((x + 1) : Nat) : Int)), (0, zR r)]) ⟨zlI rfl (by first | rfl | omega | (push_cast; omega) | exact congrArg (_ + ·) (zbT (by assumption)) | exact congrArg (_ + ·) (zbF (by assumption)) | exact congrArg (_ + ·) (zbT (by omega)) | exact congrArg (_ + ·) (zbF (by omega)) | exact congrArg (_ + ·) (if_pos (by omega)).symm | exact congrArg (_ + ·) (if_neg (by omega)).symm | exact (if_pos (by omega)).symm | exact (if_neg (by omega)).symm | exact zsub_s (if_pos (by omega)).symm | exact zsub_s0 (if_neg (by omega)).symm | exact zadd0 (if_neg (by omega)).symm | exact zadd0 (zbF (by omega)) | exact (Int.sub_zero _).symm), rfl, trivial⟩ (ih2 (x + 1) _ (by omega) (⟨by omega, zFr_si ⟨rfl, by omega, by omega⟩ f2, fun j => by
          rw [zia_si, g2]
          by_cases q : j = (x : Int)
          · rw [if_pos ⟨rfl, q⟩, if_pos ⟨by omega, by omega⟩]
          · rw [if_neg (fun z => q z.2)]
            by_cases q2 : 0 ≤ j ∧ j < (x : Int)
            · rw [if_pos q2, if_pos ⟨by omega, by omega⟩]
            · rw [if_neg q2, if_neg (fun z => q2 ⟨z.1, by have := z.2; omega⟩)]⟩))
/-- what a load may change -/
def mPq (hm : Nat) (A : Nat → Nat) (h : Nat) (j : Int) : Prop := mPl hm A h j ∨ (h = hm ∧ (j = 4 ∨ j = 5 ∨ j = 6 ∨ j = 19 ∨ j = 26)) ∨ (h = A 0 ∧ 0 ≤ j ∧ j < 312)
theorem mPl_q {σ1 : zMem} (f : zFr (mPl hm A) σ σ1) : zFr (mPq hm A) σ σ1 := f.wk fun _ _ q => Or.inl q
/-- the texts read up to here -/
def ldW (t : Int → Int) (L : Nat) (x : ldS) (n : Nat) : Prop := (∀ m, m < n → tKd t L (ldI t L x m).1 ≠ 0) ∧ ((ldI t L x n).1.2 = 0 → ldV (ldI t L x n).2)
end ZMV

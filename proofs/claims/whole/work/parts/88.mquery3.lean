/-! the reference: what a code does, a property -/
section ZMS
variable {G : zG} {d : Nat} {σ σ0 σ1 : zMem} {hm : Nat} {A : Nat → Nat} {N : Int → Int}
theorem zland01 {x y : Int} (hx : x = 0 ∨ x = 1) (hy : y = 0 ∨ y = 1) : (Int64.ofInt x &&& Int64.ofInt y).toInt = min x y := by
  rcases hx with rfl | rfl <;> rcases hy with rfl | rfl <;> decide
theorem zlor01 {x y : Int} (hx : x = 0 ∨ x = 1) (hy : y = 0 ∨ y = 1) : (Int64.ofInt x ||| Int64.ofInt y).toInt = max x y := by
  rcases hx with rfl | rfl <;> rcases hy with rfl | rfl <;> decide
theorem zlcm_n {a b : Int} : (zlcm a b < 0 ↔ a < b) := by
  unfold zlcm
  by_cases h : b < a
  · rw [if_pos h]; constructor <;> intro q <;> omega
  · rw [if_neg h]
    by_cases h2 : a = b
    · rw [if_pos h2]; constructor <;> intro q <;> omega
    · rw [if_neg h2]; constructor <;> intro q <;> omega
theorem zlcm_z {a b : Int} : (zlcm a b = 0 ↔ a = b) := by
  unfold zlcm
  by_cases h : b < a
  · rw [if_pos h]; constructor <;> intro q <;> omega
  · rw [if_neg h]
    by_cases h2 : a = b
    · rw [if_pos h2]; constructor <;> intro q <;> omega
    · rw [if_neg h2]; constructor <;> intro q <;> omega
theorem zt_X12_operate {c x y : Int} (hc : c = -20 ∨ c = -21 ∨ c = -22 ∨ c = -24 ∨ c = -25) (hx : zrgL x) (hy : zrgL y) (h01 : c ≤ -24 → (x = 0 ∨ x = 1) ∧ (y = 0 ∨ y = 1)) : zE G mX12_operate d [zI c, zL x, zL y] σ (fun ro σ1 => ro = .inl (some (zL (qOp c x y))) ∧ σ1 = σ) := by
  refine zE_of rfl (by simp [zcat]) (Nat.le_of_ble_eq_true rfl) ?_
  show zF G mX12_operate d 0 [(0, zI c), (1, zL x), (3, zL y)] [] σ _
  refine zF_iload_n 1 dX12_operate_0 rfl rfl ?_
  rcases Decidable.em (c = -24) with sw1 | sw1xm24
  · refine zF_swIn 72 dX12_operate_1 (by first | decide | assumption | (unfold zlcm; split; decide; split <;> decide) | (constructor <;> omega)) (by omega) (by omega) (by rw [sw1]; rfl) rfl ?_
    refine zF_lload_n 73 dX12_operate_72 rfl rfl ?_
    refine zF_lload_n 74 dX12_operate_73 rfl rfl ?_
    refine zF_land 75 dX12_operate_74 rfl ?_
    exact zF_lreturn dX12_operate_75 rfl (⟨congrArg (fun z => Sum.inl (some (zL z))) (by have q := zlcm_p (a := x) (b := y); have q2 := zlcm_n (a := x) (b := y); have q3 := zlcm_z (a := x) (b := y); unfold qOp; first | (rw [if_pos (by omega)]; first | exact zbT (by omega) | exact zbF (by omega)) | (rw [if_neg (by omega), if_pos (by omega)]; first | exact zbT (by omega) | exact zbF (by omega)) | (rw [if_neg (by omega), if_neg (by omega), if_pos (by omega)]; first | exact zbT (by omega) | exact zbF (by omega)) | (rw [if_neg (by omega), if_neg (by omega), if_neg (by omega), if_pos (by omega)]; exact zland01 (h01 (by omega)).1 (h01 (by omega)).2) | (rw [if_neg (by omega), if_neg (by omega), if_neg (by omega), if_neg (by omega)]; exact zlor01 (h01 (by omega)).1 (h01 (by omega)).2)), rfl⟩)
  rcases Decidable.em (c = -23) with sw1 | sw1xm23
  · refine zF_swIn 76 dX12_operate_1 (by first | decide | assumption | (unfold zlcm; split; decide; split <;> decide) | (constructor <;> omega)) (by omega) (by omega) (by rw [sw1]; rfl) rfl ?_
    refine zF_lload_n 77 dX12_operate_76 rfl rfl ?_
    refine zF_lload_n 78 dX12_operate_77 rfl rfl ?_
    refine zF_lor 79 dX12_operate_78 rfl ?_
    exact zF_lreturn dX12_operate_79 rfl (⟨congrArg (fun z => Sum.inl (some (zL z))) (by have q := zlcm_p (a := x) (b := y); have q2 := zlcm_n (a := x) (b := y); have q3 := zlcm_z (a := x) (b := y); unfold qOp; first | (rw [if_pos (by omega)]; first | exact zbT (by omega) | exact zbF (by omega)) | (rw [if_neg (by omega), if_pos (by omega)]; first | exact zbT (by omega) | exact zbF (by omega)) | (rw [if_neg (by omega), if_neg (by omega), if_pos (by omega)]; first | exact zbT (by omega) | exact zbF (by omega)) | (rw [if_neg (by omega), if_neg (by omega), if_neg (by omega), if_pos (by omega)]; exact zland01 (h01 (by omega)).1 (h01 (by omega)).2) | (rw [if_neg (by omega), if_neg (by omega), if_neg (by omega), if_neg (by omega)]; exact zlor01 (h01 (by omega)).1 (h01 (by omega)).2)), rfl⟩)
  rcases Decidable.em (c = -22) with sw1 | sw1xm22
  · refine zF_swIn 60 dX12_operate_1 (by first | decide | assumption | (unfold zlcm; split; decide; split <;> decide) | (constructor <;> omega)) (by omega) (by omega) (by rw [sw1]; rfl) rfl ?_
    refine zF_lload_n 61 dX12_operate_60 rfl rfl ?_
    refine zF_lload_n 62 dX12_operate_61 rfl rfl ?_
    refine zF_lcmp 63 dX12_operate_62 rfl (hx) (hy) ?_
    refine zF_if_le 70 66 dX12_operate_63 rfl rfl (by first | decide | assumption | (unfold zlcm; split; decide; split <;> decide) | (constructor <;> omega)) (fun c2 => ?_) (fun c2 => ?_)
    · refine zF_lconst 71 dX12_operate_70 rfl ?_
      exact zF_lreturn dX12_operate_71 rfl (⟨congrArg (fun z => Sum.inl (some (zL z))) (by have q := zlcm_p (a := x) (b := y); have q2 := zlcm_n (a := x) (b := y); have q3 := zlcm_z (a := x) (b := y); unfold qOp; first | (rw [if_pos (by omega)]; first | exact zbT (by omega) | exact zbF (by omega)) | (rw [if_neg (by omega), if_pos (by omega)]; first | exact zbT (by omega) | exact zbF (by omega)) | (rw [if_neg (by omega), if_neg (by omega), if_pos (by omega)]; first | exact zbT (by omega) | exact zbF (by omega)) | (rw [if_neg (by omega), if_neg (by omega), if_neg (by omega), if_pos (by omega)]; exact zland01 (h01 (by omega)).1 (h01 (by omega)).2) | (rw [if_neg (by omega), if_neg (by omega), if_neg (by omega), if_neg (by omega)]; exact zlor01 (h01 (by omega)).1 (h01 (by omega)).2)), rfl⟩)
    · refine zF_lconst 67 dX12_operate_66 rfl ?_
      refine zF_goto 71 dX12_operate_67 rfl ?_
      exact zF_lreturn dX12_operate_71 rfl (⟨congrArg (fun z => Sum.inl (some (zL z))) (by have q := zlcm_p (a := x) (b := y); have q2 := zlcm_n (a := x) (b := y); have q3 := zlcm_z (a := x) (b := y); unfold qOp; first | (rw [if_pos (by omega)]; first | exact zbT (by omega) | exact zbF (by omega)) | (rw [if_neg (by omega), if_pos (by omega)]; first | exact zbT (by omega) | exact zbF (by omega)) | (rw [if_neg (by omega), if_neg (by omega), if_pos (by omega)]; first | exact zbT (by omega) | exact zbF (by omega)) | (rw [if_neg (by omega), if_neg (by omega), if_neg (by omega), if_pos (by omega)]; exact zland01 (h01 (by omega)).1 (h01 (by omega)).2) | (rw [if_neg (by omega), if_neg (by omega), if_neg (by omega), if_neg (by omega)]; exact zlor01 (h01 (by omega)).1 (h01 (by omega)).2)), rfl⟩)
  rcases Decidable.em (c = -21) with sw1 | sw1xm21
  · refine zF_swIn 48 dX12_operate_1 (by first | decide | assumption | (unfold zlcm; split; decide; split <;> decide) | (constructor <;> omega)) (by omega) (by omega) (by rw [sw1]; rfl) rfl ?_
    refine zF_lload_n 49 dX12_operate_48 rfl rfl ?_
    refine zF_lload_n 50 dX12_operate_49 rfl rfl ?_
    refine zF_lcmp 51 dX12_operate_50 rfl (hx) (hy) ?_
    refine zF_if_ne 58 54 dX12_operate_51 rfl rfl (by first | decide | assumption | (unfold zlcm; split; decide; split <;> decide) | (constructor <;> omega)) (fun c3 => ?_) (fun c3 => ?_)
    · refine zF_lconst 59 dX12_operate_58 rfl ?_
      exact zF_lreturn dX12_operate_59 rfl (⟨congrArg (fun z => Sum.inl (some (zL z))) (by have q := zlcm_p (a := x) (b := y); have q2 := zlcm_n (a := x) (b := y); have q3 := zlcm_z (a := x) (b := y); unfold qOp; first | (rw [if_pos (by omega)]; first | exact zbT (by omega) | exact zbF (by omega)) | (rw [if_neg (by omega), if_pos (by omega)]; first | exact zbT (by omega) | exact zbF (by omega)) | (rw [if_neg (by omega), if_neg (by omega), if_pos (by omega)]; first | exact zbT (by omega) | exact zbF (by omega)) | (rw [if_neg (by omega), if_neg (by omega), if_neg (by omega), if_pos (by omega)]; exact zland01 (h01 (by omega)).1 (h01 (by omega)).2) | (rw [if_neg (by omega), if_neg (by omega), if_neg (by omega), if_neg (by omega)]; exact zlor01 (h01 (by omega)).1 (h01 (by omega)).2)), rfl⟩)
    · refine zF_lconst 55 dX12_operate_54 rfl ?_
      refine zF_goto 59 dX12_operate_55 rfl ?_
      exact zF_lreturn dX12_operate_59 rfl (⟨congrArg (fun z => Sum.inl (some (zL z))) (by have q := zlcm_p (a := x) (b := y); have q2 := zlcm_n (a := x) (b := y); have q3 := zlcm_z (a := x) (b := y); unfold qOp; first | (rw [if_pos (by omega)]; first | exact zbT (by omega) | exact zbF (by omega)) | (rw [if_neg (by omega), if_pos (by omega)]; first | exact zbT (by omega) | exact zbF (by omega)) | (rw [if_neg (by omega), if_neg (by omega), if_pos (by omega)]; first | exact zbT (by omega) | exact zbF (by omega)) | (rw [if_neg (by omega), if_neg (by omega), if_neg (by omega), if_pos (by omega)]; exact zland01 (h01 (by omega)).1 (h01 (by omega)).2) | (rw [if_neg (by omega), if_neg (by omega), if_neg (by omega), if_neg (by omega)]; exact zlor01 (h01 (by omega)).1 (h01 (by omega)).2)), rfl⟩)
  rcases Decidable.em (c = -20) with sw1 | sw1xm20
  · refine zF_swIn 36 dX12_operate_1 (by first | decide | assumption | (unfold zlcm; split; decide; split <;> decide) | (constructor <;> omega)) (by omega) (by omega) (by rw [sw1]; rfl) rfl ?_
    refine zF_lload_n 37 dX12_operate_36 rfl rfl ?_
    refine zF_lload_n 38 dX12_operate_37 rfl rfl ?_
    refine zF_lcmp 39 dX12_operate_38 rfl (hx) (hy) ?_
    refine zF_if_ge 46 42 dX12_operate_39 rfl rfl (by first | decide | assumption | (unfold zlcm; split; decide; split <;> decide) | (constructor <;> omega)) (fun c4 => ?_) (fun c4 => ?_)
    · refine zF_lconst 47 dX12_operate_46 rfl ?_
      exact zF_lreturn dX12_operate_47 rfl (⟨congrArg (fun z => Sum.inl (some (zL z))) (by have q := zlcm_p (a := x) (b := y); have q2 := zlcm_n (a := x) (b := y); have q3 := zlcm_z (a := x) (b := y); unfold qOp; first | (rw [if_pos (by omega)]; first | exact zbT (by omega) | exact zbF (by omega)) | (rw [if_neg (by omega), if_pos (by omega)]; first | exact zbT (by omega) | exact zbF (by omega)) | (rw [if_neg (by omega), if_neg (by omega), if_pos (by omega)]; first | exact zbT (by omega) | exact zbF (by omega)) | (rw [if_neg (by omega), if_neg (by omega), if_neg (by omega), if_pos (by omega)]; exact zland01 (h01 (by omega)).1 (h01 (by omega)).2) | (rw [if_neg (by omega), if_neg (by omega), if_neg (by omega), if_neg (by omega)]; exact zlor01 (h01 (by omega)).1 (h01 (by omega)).2)), rfl⟩)
    · refine zF_lconst 43 dX12_operate_42 rfl ?_
      refine zF_goto 47 dX12_operate_43 rfl ?_
      exact zF_lreturn dX12_operate_47 rfl (⟨congrArg (fun z => Sum.inl (some (zL z))) (by have q := zlcm_p (a := x) (b := y); have q2 := zlcm_n (a := x) (b := y); have q3 := zlcm_z (a := x) (b := y); unfold qOp; first | (rw [if_pos (by omega)]; first | exact zbT (by omega) | exact zbF (by omega)) | (rw [if_neg (by omega), if_pos (by omega)]; first | exact zbT (by omega) | exact zbF (by omega)) | (rw [if_neg (by omega), if_neg (by omega), if_pos (by omega)]; first | exact zbT (by omega) | exact zbF (by omega)) | (rw [if_neg (by omega), if_neg (by omega), if_neg (by omega), if_pos (by omega)]; exact zland01 (h01 (by omega)).1 (h01 (by omega)).2) | (rw [if_neg (by omega), if_neg (by omega), if_neg (by omega), if_neg (by omega)]; exact zlor01 (h01 (by omega)).1 (h01 (by omega)).2)), rfl⟩)
  refine zF_swOut 76 dX12_operate_1 (by first | decide | assumption | (unfold zlcm; split; decide; split <;> decide) | (constructor <;> omega)) (by omega) rfl ?_
  refine zF_lload_n 77 dX12_operate_76 rfl rfl ?_
  refine zF_lload_n 78 dX12_operate_77 rfl rfl ?_
  refine zF_lor 79 dX12_operate_78 rfl ?_
  exact zF_lreturn dX12_operate_79 rfl (⟨congrArg (fun z => Sum.inl (some (zL z))) (by have q := zlcm_p (a := x) (b := y); have q2 := zlcm_n (a := x) (b := y); have q3 := zlcm_z (a := x) (b := y); unfold qOp; first | (rw [if_pos (by omega)]; first | exact zbT (by omega) | exact zbF (by omega)) | (rw [if_neg (by omega), if_pos (by omega)]; first | exact zbT (by omega) | exact zbF (by omega)) | (rw [if_neg (by omega), if_neg (by omega), if_pos (by omega)]; first | exact zbT (by omega) | exact zbF (by omega)) | (rw [if_neg (by omega), if_neg (by omega), if_neg (by omega), if_pos (by omega)]; exact zland01 (h01 (by omega)).1 (h01 (by omega)).2) | (rw [if_neg (by omega), if_neg (by omega), if_neg (by omega), if_neg (by omega)]; exact zlor01 (h01 (by omega)).1 (h01 (by omega)).2)), rfl⟩)
end ZMS

/-! the class: the reader of queries -/
section ZCQ
variable {G : zG} {d : Nat} {σ σ0 σ1 : zMem} {B : Nat → Nat} {N : Int → Int}
def cQt (σ : zMem) (B : Nat → Nat) : Prop := zkd σ (B 40) = (0, 7) ∧ B 40 < zn σ ∧ zra σ (B 40) ((0 : Nat) : Int) = some (B 20) ∧ zra σ (B 40) ((1 : Nat) : Int) = some (B 100) ∧ zra σ (B 40) ((2 : Nat) : Int) = some (B 200) ∧ zra σ (B 40) ((3 : Nat) : Int) = some (B 300)
theorem cQt_fr {P : Nat → Int → Prop} (h : cQt σ B) (f : zFr P σ σ1) : cQt σ1 B := by
  obtain ⟨f1, f2, f3, -⟩ := f
  unfold cQt at h ⊢
  rw [f1, f2, f3]
  exact h
theorem zt_X7_holds {r x y : Int} (hr : r = 60 ∨ r = 61 ∨ r = 62) (zx : zrg x) (zy : zrg y) : zP1 G mX7_holds d [zI r, zI x, zI y] σ (qOp (40 - r) x y) := by
  refine zE_of rfl (by simp [zcat]) (Nat.le_of_ble_eq_true rfl) ?_
  show zF G mX7_holds d 0 [(0, zI r), (1, zI x), (2, zI y)] [] σ _
  refine zF_iload_n 1 dX7_holds_0 rfl rfl ?_
  refine zF_bipush 3 dX7_holds_1 rfl (by decide) ?_
  refine zF_icmp_ne 17 6 dX7_holds_3 rfl rfl (by first | decide | assumption | (constructor <;> omega)) (by first | decide | assumption | (constructor <;> omega)) (fun c1 => ?_) (fun c1 => ?_)
  · refine zF_iload_n 18 dX7_holds_17 rfl rfl ?_
    refine zF_bipush 20 dX7_holds_18 rfl (by decide) ?_
    refine zF_icmp_ne 36 23 dX7_holds_20 rfl rfl (by first | decide | assumption | (constructor <;> omega)) (by first | decide | assumption | (constructor <;> omega)) (fun c2 => ?_) (fun c2 => ?_)
    · refine zF_iload_n 37 dX7_holds_36 rfl rfl ?_
      refine zF_iload_n 38 dX7_holds_37 rfl rfl ?_
      refine zF_icmp_le 45 41 dX7_holds_38 rfl rfl (by first | decide | assumption | (constructor <;> omega)) (by first | decide | assumption | (constructor <;> omega)) (fun c3 => ?_) (fun c3 => ?_)
      · refine zF_iconst 46 dX7_holds_45 rfl ?_
        exact zF_zretP dX7_holds_46 rfl (by decide) ((by unfold qOp; first | (rw [if_pos (by omega)]; first | exact zbT (by omega) | exact zbF (by omega)) | (rw [if_neg (by omega), if_pos (by omega)]; first | exact zbT (by omega) | exact zbF (by omega)) | (rw [if_neg (by omega), if_neg (by omega), if_pos (by omega)]; first | exact zbT (by omega) | exact zbF (by omega))))
      · refine zF_iconst 42 dX7_holds_41 rfl ?_
        refine zF_goto 46 dX7_holds_42 rfl ?_
        exact zF_zretP dX7_holds_46 rfl (by decide) ((by unfold qOp; first | (rw [if_pos (by omega)]; first | exact zbT (by omega) | exact zbF (by omega)) | (rw [if_neg (by omega), if_pos (by omega)]; first | exact zbT (by omega) | exact zbF (by omega)) | (rw [if_neg (by omega), if_neg (by omega), if_pos (by omega)]; first | exact zbT (by omega) | exact zbF (by omega))))
    · refine zF_iload_n 24 dX7_holds_23 rfl rfl ?_
      refine zF_iload_n 25 dX7_holds_24 rfl rfl ?_
      refine zF_icmp_ne 32 28 dX7_holds_25 rfl rfl (by first | decide | assumption | (constructor <;> omega)) (by first | decide | assumption | (constructor <;> omega)) (fun c4 => ?_) (fun c4 => ?_)
      · refine zF_iconst 33 dX7_holds_32 rfl ?_
        refine zF_goto 46 dX7_holds_33 rfl ?_
        exact zF_zretP dX7_holds_46 rfl (by decide) ((by unfold qOp; first | (rw [if_pos (by omega)]; first | exact zbT (by omega) | exact zbF (by omega)) | (rw [if_neg (by omega), if_pos (by omega)]; first | exact zbT (by omega) | exact zbF (by omega)) | (rw [if_neg (by omega), if_neg (by omega), if_pos (by omega)]; first | exact zbT (by omega) | exact zbF (by omega))))
      · refine zF_iconst 29 dX7_holds_28 rfl ?_
        refine zF_goto 46 dX7_holds_29 rfl ?_
        exact zF_zretP dX7_holds_46 rfl (by decide) ((by unfold qOp; first | (rw [if_pos (by omega)]; first | exact zbT (by omega) | exact zbF (by omega)) | (rw [if_neg (by omega), if_pos (by omega)]; first | exact zbT (by omega) | exact zbF (by omega)) | (rw [if_neg (by omega), if_neg (by omega), if_pos (by omega)]; first | exact zbT (by omega) | exact zbF (by omega))))
  · refine zF_iload_n 7 dX7_holds_6 rfl rfl ?_
    refine zF_iload_n 8 dX7_holds_7 rfl rfl ?_
    refine zF_icmp_ge 15 11 dX7_holds_8 rfl rfl (by first | decide | assumption | (constructor <;> omega)) (by first | decide | assumption | (constructor <;> omega)) (fun c5 => ?_) (fun c5 => ?_)
    · refine zF_iconst 16 dX7_holds_15 rfl ?_
      exact zF_zretP dX7_holds_16 rfl (by decide) ((by unfold qOp; first | (rw [if_pos (by omega)]; first | exact zbT (by omega) | exact zbF (by omega)) | (rw [if_neg (by omega), if_pos (by omega)]; first | exact zbT (by omega) | exact zbF (by omega)) | (rw [if_neg (by omega), if_neg (by omega), if_pos (by omega)]; first | exact zbT (by omega) | exact zbF (by omega))))
    · refine zF_iconst 12 dX7_holds_11 rfl ?_
      refine zF_goto 16 dX7_holds_12 rfl ?_
      exact zF_zretP dX7_holds_16 rfl (by decide) ((by unfold qOp; first | (rw [if_pos (by omega)]; first | exact zbT (by omega) | exact zbF (by omega)) | (rw [if_neg (by omega), if_pos (by omega)]; first | exact zbT (by omega) | exact zbF (by omega)) | (rw [if_neg (by omega), if_neg (by omega), if_pos (by omega)]; first | exact zbT (by omega) | exact zbF (by omega))))
def qBk (N : Int → Int) (s : Int) : Int := if mS N s 4 = -1 then 0 else if mS N s 5 ≠ -1 then 2 else 1
theorem zt_X7_bookedAs {s : Int} (hq : cQt σ B) (hB : cM σ B) (hR : cR N σ B) (hV : mV N) (hX : mX N) (s0 : 0 ≤ s) (s1 : s < N 1) : zP1 G mX7_bookedAs (d + 1) [zR (B 40), zI s] σ (qBk N s) := by
  refine zE_of rfl (by simp [zcat]) (Nat.le_of_ble_eq_true rfl) ?_
  show zF G mX7_bookedAs (d + 1) 0 [(0, zR (B 40)), (1, zI s)] [] σ _
  have hb := hV.b
  have hn := hV.n
  have hx := (hX s s0 s1).1
  refine zF_aload_n 1 dX7_bookedAs_0 rfl rfl ?_
  refine zF_getR 4 dX7_bookedAs_1 rfl gX7_19 hq.1 hq.2.1 hq.2.2.2.2.1 ?_
  refine zF_getR 7 dX7_bookedAs_4 rfl gX7_163 hB.st.1 hB.st.2.1 (cB_206 hB).1 ?_
  refine zF_iload_n 8 dX7_bookedAs_7 rfl rfl ?_
  refine zF_iaload 9 dX7_bookedAs_8 rfl (cB_206 hB).2.2 (cB_206 hB).2.1 (by omega) (by omega) (hR.s.2.2.1 _ (by omega) (by omega)).2.1 ?_
  refine zF_iconst 10 dX7_bookedAs_9 rfl ?_
  refine zF_icmp_ne 15 13 dX7_bookedAs_10 rfl rfl (by first | decide | assumption | exact hb _ | exact mSh_rg hb _ _ | exact zb_rg _ | (constructor <;> omega)) (by first | decide | assumption | exact hb _ | exact mSh_rg hb _ _ | exact zb_rg _ | (constructor <;> omega)) (fun c1 => ?_) (fun c1 => ?_)
  · refine zF_aload_n 16 dX7_bookedAs_15 rfl rfl ?_
    refine zF_getR 19 dX7_bookedAs_16 rfl gX7_19 hq.1 hq.2.1 hq.2.2.2.2.1 ?_
    refine zF_getR 22 dX7_bookedAs_19 rfl gX7_166 hB.st.1 hB.st.2.1 (cB_208 hB).1 ?_
    refine zF_iload_n 23 dX7_bookedAs_22 rfl rfl ?_
    refine zF_iaload 24 dX7_bookedAs_23 rfl (cB_208 hB).2.2 (cB_208 hB).2.1 (by omega) (by omega) (hR.s.2.2.1 _ (by omega) (by omega)).2.2.2.1 ?_
    refine zF_if_ne 31 27 dX7_bookedAs_24 rfl rfl (by first | decide | assumption | exact hb _ | exact mSh_rg hb _ _ | exact zb_rg _ | (constructor <;> omega)) (fun c2 => ?_) (fun c2 => ?_)
    · refine zF_iconst 32 dX7_bookedAs_31 rfl ?_
      exact zF_iretP dX7_bookedAs_32 rfl ((by unfold qBk; first | (rw [if_pos (by omega)]) | (rw [if_neg (by omega), if_pos (by omega)]) | (rw [if_neg (by omega), if_neg (by omega)])))
    · refine zF_iconst 28 dX7_bookedAs_27 rfl ?_
      refine zF_goto 32 dX7_bookedAs_28 rfl ?_
      exact zF_iretP dX7_bookedAs_32 rfl ((by unfold qBk; first | (rw [if_pos (by omega)]) | (rw [if_neg (by omega), if_pos (by omega)]) | (rw [if_neg (by omega), if_neg (by omega)])))
  · refine zF_iconst 14 dX7_bookedAs_13 rfl ?_
    exact zF_iretP dX7_bookedAs_14 rfl ((by unfold qBk; first | (rw [if_pos (by omega)]) | (rw [if_neg (by omega), if_pos (by omega)]) | (rw [if_neg (by omega), if_neg (by omega)])))
end ZCQ

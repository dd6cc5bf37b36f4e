/-! the reference: its questions -/
section ZQ
variable {G : zG} {d : Nat} {σ : zMem} {hm : Nat} {A : Nat → Nat} {N : Int → Int}
/-- what a question of the reference may write -/
def mSc (hm : Nat) (A : Nat → Nat) (h : Nat) (j : Int) : Prop := (h = hm ∧ (j = 5 ∨ j = 12 ∨ j = 13)) ∨ h = A 7 ∨ h = A 8 ∨ h = A 9 ∨ h = A 10 ∨ h = A 11 ∨ h = A 14 ∨ h = A 15
/-- a question's end: the answer, and what 'thrown' says -/
def mop (k v : Int) (hm : Nat) (A : Nat → Nat) (σ : zMem) : zRes → zMem → Prop := fun r σ1 => ∃ x, r = .inl (some (zI x)) ∧ zFr (mSc hm A) σ σ1 ∧ zia σ1 hm ((5 : Nat) : Int) = k ∧ (k = 0 → x = v)
theorem mopR {k v x : Int} {σ1 : zMem} (hf : zFr (mSc hm A) σ σ1) (ht : zia σ1 hm ((5 : Nat) : Int) = 0) (hk : k = 0) (hv : x = v) : mop k v hm A σ (.inl (some (zI x))) σ1 := ⟨x, rfl, hf, ht.trans hk.symm, fun _ => hv⟩
theorem mopT {k v x t : Int} {σ1 : zMem} (hf : zFr (mSc hm A) σ σ1) (ht : zia σ1 hm ((5 : Nat) : Int) = t) (hk : k = t) (hn : t ≠ 0) : mop k v hm A σ (.inl (some (zI x))) σ1 := ⟨x, rfl, hf, ht.trans hk.symm, fun h => absurd (hk.symm.trans h) hn⟩
theorem mSc_fr78 {σ1 σ2 : zMem} (h : zFr (mSc hm A) σ σ1) (k : zFr (fun y _ => y = A 7 ∨ y = A 8) σ1 σ2) : zFr (mSc hm A) σ σ2 := h.tr (k.wk fun y j q => q.elim (fun q => Or.inr (Or.inl q)) (fun q => Or.inr (Or.inr (Or.inl q))))
theorem mSc_hm5 {v : Int} {σ1 : zMem} (h : zFr (mSc hm A) σ σ1) : zFr (mSc hm A) σ (zsi σ1 hm ((5 : Nat) : Int) v) := zFr_si (Or.inl ⟨rfl, Or.inl rfl⟩) h
theorem zFr_F {P : Nat → Int → Prop} {σ1 σ2 : zMem} {h : Nat} {j v : Int} (k : zFr P σ1 σ2) (hp : ¬ P h j) (e : zia σ1 h j = v) : zia σ2 h j = v := (k.2.2.2.2.2 h j hp).trans e
theorem n78 (hM : zMo σ hm A) {j : Int} : ¬ (hm = A 7 ∨ hm = A 8) := fun q => q.elim (fun q => zMo_hm1 hM (k := 7) (by decide) zMo_h1 q.symm) (fun q => zMo_hm1 hM (k := 8) (by decide) zMo_h1 q.symm)
theorem zt_X12_raise {a : Int} (hM : zMo σ hm A) : zE G mX12_raise d [zR hm, zI a] σ (fun ro σ1 => ro = .inl (some (zI 0)) ∧ σ1 = zsi σ hm ((5 : Nat) : Int) a) := by
  refine zE_of rfl (by simp [zcat]) (Nat.le_of_ble_eq_true rfl) ?_
  show zF G mX12_raise d 0 [(0, zR hm), (1, zI a)] [] σ _
  refine zF_aload_n 1 dX12_raise_0 rfl rfl ?_
  refine zF_iload_n 2 dX12_raise_1 rfl rfl ?_
  refine zF_putI 5 dX12_raise_2 rfl pX12_raise_89 (Or.inl rfl) hM.1 hM.2.1 ?_
  refine zF_iconst 6 dX12_raise_5 rfl ?_
  exact zF_ireturn dX12_raise_6 rfl (⟨rfl, rfl⟩)
def mBkN (N : Int → Int) (b : Int) (n : Nat) : Int := zsum (fun s => if b ≠ 0 then mS N s 7 else zb (mS N s 4 ≠ -1)) n
theorem zt_X12_bookedScreens {b : Int} (hM : zMo σ hm A) (hN : zia σ (A 0) = N) (hV : mV N) (zrb : zrg b) : zP1 G mX12_bookedScreens (d + 3) [zR hm, zI b] σ (mBkN N b (nS N)) := by
  refine zE_of rfl (by simp [zcat]) (Nat.le_of_ble_eq_true rfl) ?_
  show zF G mX12_bookedScreens (d + 3) 0 [(0, zR hm), (1, zI b)] [] σ _
  have hb := hV.b
  have hs := nS_eq hV
  refine zF_iconst 1 dX12_bookedScreens_0 rfl ?_
  refine zF_istore_n 2 (ls' := [(2, zI 0), (0, zR hm), (1, zI b)]) dX12_bookedScreens_1 rfl (by decide) rfl ?_
  refine zF_iconst 3 dX12_bookedScreens_2 rfl ?_
  refine zF_istore_n 4 (ls' := [(3, zI 0), (2, zI 0), (0, zR hm), (1, zI b)]) dX12_bookedScreens_3 rfl (by decide) rfl ?_
  refine zF_locs (ls' := (fun (i : Nat) => [(3, zI (i : Int)), (2, zI (mBkN N b i)), (0, zR hm), (1, zI b)]) 0) ⟨zlI rfl (by first | omega | rfl | (push_cast; omega) | exact congrArg (_ + ·) ((if_pos (by assumption)).symm) | exact congrArg (_ + ·) ((zbT (by assumption)).trans (if_neg (by omega)).symm) | exact congrArg (_ + ·) ((zbF (by assumption)).trans (if_neg (by omega)).symm)  | exact congrArg (_ + ·) ((zbT (by omega)).trans (if_neg (by omega)).symm) | exact congrArg (_ + ·) ((zbF (by omega)).trans (if_neg (by omega)).symm)), zlI rfl (by first | omega | rfl | (push_cast; omega) | exact congrArg (_ + ·) ((if_pos (by assumption)).symm) | exact congrArg (_ + ·) ((zbT (by assumption)).trans (if_neg (by omega)).symm) | exact congrArg (_ + ·) ((zbF (by assumption)).trans (if_neg (by omega)).symm)  | exact congrArg (_ + ·) ((zbT (by omega)).trans (if_neg (by omega)).symm) | exact congrArg (_ + ·) ((zbF (by omega)).trans (if_neg (by omega)).symm)), rfl, rfl, trivial⟩ ?_
  refine zF_loop (n := (nS N)) (fun (i : Nat) => [(3, zI (i : Int)), (2, zI (mBkN N b i)), (0, zR hm), (1, zI b)]) (fun _ => σ) (fun i hi ih4 => ?_) ?_
  · show zF G mX12_bookedScreens (d + 3) 4 [(3, zI (i : Int)), (2, zI (mBkN N b i)), (0, zR hm), (1, zI b)] [] σ _
    refine zF_iload_n 5 dX12_bookedScreens_4 rfl rfl ?_
    refine zF_aload_n 6 dX12_bookedScreens_5 rfl rfl ?_
    refine zF_callVi 9 (d2 := (d + 2)) (as := []) dX12_bookedScreens_6 rfl kX12_113 iX12_screens (ci := 12) rfl eX12_screens (Nat.le_refl _) hM.1 hM.2.1 rfl rfl (Nat.le_of_ble_eq_true rfl) (zn_X12_screens hM hN) ?_
    refine zF_icmp_ge 50 12 dX12_bookedScreens_9 rfl rfl (by first | decide | assumption | exact hb _ | exact mSh_rg hb _ _ | exact zb_rg _ | (constructor <;> omega)) (by first | decide | assumption | exact hb _ | exact mSh_rg hb _ _ | exact zb_rg _ | (constructor <;> omega)) (fun c1 => ?_) (fun c1 => ?_)
    · exact absurd c1 (by omega)
    · refine zF_iload_n 13 dX12_bookedScreens_12 rfl rfl ?_
      refine zF_iload_n 14 dX12_bookedScreens_13 rfl rfl ?_
      refine zF_if_eq 27 17 dX12_bookedScreens_14 rfl rfl (by first | decide | assumption | exact hb _ | exact mSh_rg hb _ _ | exact zb_rg _ | (constructor <;> omega)) (fun c2 => ?_) (fun c2 => ?_)
      · refine zF_aload_n 28 dX12_bookedScreens_27 rfl rfl ?_
        refine zF_iload_n 29 dX12_bookedScreens_28 rfl rfl ?_
        refine zF_iconst 30 dX12_bookedScreens_29 rfl ?_
        refine zF_callVi 33 (d2 := (d + 2)) (as := [zI (i : Int), zI 4]) dX12_bookedScreens_30 rfl kX12_119 iX12_of (ci := 12) rfl eX12_of (Nat.le_refl _) hM.1 hM.2.1 rfl rfl (Nat.le_of_ble_eq_true rfl) (zn_X12_of hM hN (by omega) (by omega)) ?_
        refine zF_iconst 34 dX12_bookedScreens_33 rfl ?_
        refine zF_icmp_ne 41 37 dX12_bookedScreens_34 rfl rfl (by first | decide | assumption | exact hb _ | exact mSh_rg hb _ _ | exact zb_rg _ | (constructor <;> omega)) (by first | decide | assumption | exact hb _ | exact mSh_rg hb _ _ | exact zb_rg _ | (constructor <;> omega)) (fun c3 => ?_) (fun c3 => ?_)
        · refine zF_iconst 42 dX12_bookedScreens_41 rfl ?_
          refine zF_iadd 43 dX12_bookedScreens_42 rfl ?_
          refine zF_istore_n 44 (ls' := [(2, zI ((mBkN N b i) + 1)), (3, zI (i : Int)), (0, zR hm), (1, zI b)]) dX12_bookedScreens_43 rfl (by decide) rfl ?_
          refine zF_iinc 47 (ls' := [(3, zI ((i : Int) + 1)), (2, zI ((mBkN N b i) + 1)), (0, zR hm), (1, zI b)]) dX12_bookedScreens_44 rfl rfl rfl (by decide) rfl ?_
          refine zF_goto 4 dX12_bookedScreens_47 rfl ?_
          exact zF_locs (ls' := [(3, zI ((i + 1 : Nat) : Int)), (2, zI (mBkN N b (i + 1))), (0, zR hm), (1, zI b)]) ⟨zlI rfl (by first | omega | rfl | (push_cast; omega) | exact congrArg (_ + ·) ((if_pos (by assumption)).symm) | exact congrArg (_ + ·) ((zbT (by assumption)).trans (if_neg (by omega)).symm) | exact congrArg (_ + ·) ((zbF (by assumption)).trans (if_neg (by omega)).symm)  | exact congrArg (_ + ·) ((zbT (by omega)).trans (if_neg (by omega)).symm) | exact congrArg (_ + ·) ((zbF (by omega)).trans (if_neg (by omega)).symm)), zlI rfl (by first | omega | rfl | (push_cast; omega) | exact congrArg (_ + ·) ((if_pos (by assumption)).symm) | exact congrArg (_ + ·) ((zbT (by assumption)).trans (if_neg (by omega)).symm) | exact congrArg (_ + ·) ((zbF (by assumption)).trans (if_neg (by omega)).symm)  | exact congrArg (_ + ·) ((zbT (by omega)).trans (if_neg (by omega)).symm) | exact congrArg (_ + ·) ((zbF (by omega)).trans (if_neg (by omega)).symm)), rfl, rfl, trivial⟩ ih4
        · refine zF_iconst 38 dX12_bookedScreens_37 rfl ?_
          refine zF_goto 42 dX12_bookedScreens_38 rfl ?_
          refine zF_iadd 43 dX12_bookedScreens_42 rfl ?_
          refine zF_istore_n 44 (ls' := [(2, zI ((mBkN N b i) + 0)), (3, zI (i : Int)), (0, zR hm), (1, zI b)]) dX12_bookedScreens_43 rfl (by decide) rfl ?_
          refine zF_iinc 47 (ls' := [(3, zI ((i : Int) + 1)), (2, zI ((mBkN N b i) + 0)), (0, zR hm), (1, zI b)]) dX12_bookedScreens_44 rfl rfl rfl (by decide) rfl ?_
          refine zF_goto 4 dX12_bookedScreens_47 rfl ?_
          exact zF_locs (ls' := [(3, zI ((i + 1 : Nat) : Int)), (2, zI (mBkN N b (i + 1))), (0, zR hm), (1, zI b)]) ⟨zlI rfl (by first | omega | rfl | (push_cast; omega) | exact congrArg (_ + ·) ((if_pos (by assumption)).symm) | exact congrArg (_ + ·) ((zbT (by assumption)).trans (if_neg (by omega)).symm) | exact congrArg (_ + ·) ((zbF (by assumption)).trans (if_neg (by omega)).symm)  | exact congrArg (_ + ·) ((zbT (by omega)).trans (if_neg (by omega)).symm) | exact congrArg (_ + ·) ((zbF (by omega)).trans (if_neg (by omega)).symm)), zlI rfl (by first | omega | rfl | (push_cast; omega) | exact congrArg (_ + ·) ((if_pos (by assumption)).symm) | exact congrArg (_ + ·) ((zbT (by assumption)).trans (if_neg (by omega)).symm) | exact congrArg (_ + ·) ((zbF (by assumption)).trans (if_neg (by omega)).symm)  | exact congrArg (_ + ·) ((zbT (by omega)).trans (if_neg (by omega)).symm) | exact congrArg (_ + ·) ((zbF (by omega)).trans (if_neg (by omega)).symm)), rfl, rfl, trivial⟩ ih4
      · refine zF_aload_n 18 dX12_bookedScreens_17 rfl rfl ?_
        refine zF_iload_n 19 dX12_bookedScreens_18 rfl rfl ?_
        refine zF_bipush 21 dX12_bookedScreens_19 rfl (by decide) ?_
        refine zF_callVi 24 (d2 := (d + 2)) (as := [zI (i : Int), zI 7]) dX12_bookedScreens_21 rfl kX12_119 iX12_of (ci := 12) rfl eX12_of (Nat.le_refl _) hM.1 hM.2.1 rfl rfl (Nat.le_of_ble_eq_true rfl) (zn_X12_of hM hN (by omega) (by omega)) ?_
        refine zF_goto 42 dX12_bookedScreens_24 rfl ?_
        refine zF_iadd 43 dX12_bookedScreens_42 rfl ?_
        refine zF_istore_n 44 (ls' := [(2, zI ((mBkN N b i) + (mS N (i : Int) 7))), (3, zI (i : Int)), (0, zR hm), (1, zI b)]) dX12_bookedScreens_43 rfl (by decide) rfl ?_
        refine zF_iinc 47 (ls' := [(3, zI ((i : Int) + 1)), (2, zI ((mBkN N b i) + (mS N (i : Int) 7))), (0, zR hm), (1, zI b)]) dX12_bookedScreens_44 rfl rfl rfl (by decide) rfl ?_
        refine zF_goto 4 dX12_bookedScreens_47 rfl ?_
        exact zF_locs (ls' := [(3, zI ((i + 1 : Nat) : Int)), (2, zI (mBkN N b (i + 1))), (0, zR hm), (1, zI b)]) ⟨zlI rfl (by first | omega | rfl | (push_cast; omega) | exact congrArg (_ + ·) ((if_pos (by assumption)).symm) | exact congrArg (_ + ·) ((zbT (by assumption)).trans (if_neg (by omega)).symm) | exact congrArg (_ + ·) ((zbF (by assumption)).trans (if_neg (by omega)).symm)  | exact congrArg (_ + ·) ((zbT (by omega)).trans (if_neg (by omega)).symm) | exact congrArg (_ + ·) ((zbF (by omega)).trans (if_neg (by omega)).symm)), zlI rfl (by first | omega | rfl | (push_cast; omega) | exact congrArg (_ + ·) ((if_pos (by assumption)).symm) | exact congrArg (_ + ·) ((zbT (by assumption)).trans (if_neg (by omega)).symm) | exact congrArg (_ + ·) ((zbF (by assumption)).trans (if_neg (by omega)).symm)  | exact congrArg (_ + ·) ((zbT (by omega)).trans (if_neg (by omega)).symm) | exact congrArg (_ + ·) ((zbF (by omega)).trans (if_neg (by omega)).symm)), rfl, rfl, trivial⟩ ih4
  · show zF G mX12_bookedScreens (d + 3) 4 [(3, zI (((nS N) : Nat) : Int)), (2, zI (mBkN N b (nS N))), (0, zR hm), (1, zI b)] [] σ _
    refine zF_iload_n 5 dX12_bookedScreens_4 rfl rfl ?_
    refine zF_aload_n 6 dX12_bookedScreens_5 rfl rfl ?_
    refine zF_callVi 9 (d2 := (d + 2)) (as := []) dX12_bookedScreens_6 rfl kX12_113 iX12_screens (ci := 12) rfl eX12_screens (Nat.le_refl _) hM.1 hM.2.1 rfl rfl (Nat.le_of_ble_eq_true rfl) (zn_X12_screens hM hN) ?_
    refine zF_icmp_ge 50 12 dX12_bookedScreens_9 rfl rfl (by first | decide | assumption | exact hb _ | exact mSh_rg hb _ _ | exact zb_rg _ | (constructor <;> omega)) (by first | decide | assumption | exact hb _ | exact mSh_rg hb _ _ | exact zb_rg _ | (constructor <;> omega)) (fun c4 => ?_) (fun c4 => ?_)
    · refine zF_iload_n 51 dX12_bookedScreens_50 rfl rfl ?_
      exact zF_iretP dX12_bookedScreens_51 rfl (rfl)
    · exact absurd c4 (by omega)
theorem mBk0 : mBkN N 0 (nS N) = cBkN N (nS N) := zsum_congr fun s _ => if_neg (fun h => h rfl)
theorem mBk1 : mBkN N 1 (nS N) = cHdN N (nS N) := zsum_congr fun s _ => if_pos (by decide)
theorem zt_X12_size {w : Int} (hM : zMo σ hm A) (hN : zia σ (A 0) = N) (hV : mV N) (zrw : zrg w) : zE G mX12_size (d + 12) [zR hm, zI w] σ (mop (if 0 ≤ w ∧ w ≤ 7 then 0 else 1) (sSize N w) hm A σ) := by
  refine zE_of rfl (by simp [zcat]) (Nat.le_of_ble_eq_true rfl) ?_
  show zF G mX12_size (d + 12) 0 [(0, zR hm), (1, zI w)] [] σ _
  have hb := hV.b
  have hn := hV.n
  refine zF_aload_n 1 dX12_size_0 rfl rfl ?_
  refine zF_iconst 2 dX12_size_1 rfl ?_
  refine zF_putI 5 dX12_size_2 rfl pX12_size_89 (Or.inl rfl) hM.1 hM.2.1 ?_
  refine zF_iload_n 6 dX12_size_5 rfl rfl ?_
  rcases Decidable.em (w = 0) with sw1 | sw1x0
  · refine zF_swIn 52 dX12_size_6 (by first | decide | assumption | exact hb _ | exact mSh_rg hb _ _ | exact zb_rg _ | (constructor <;> omega)) (by omega) (by omega) (by rw [sw1]; rfl) rfl ?_
    refine zF_aload_n 53 dX12_size_52 rfl rfl ?_
    refine zF_getR 56 dX12_size_53 rfl gX12_9 hM.1 hM.2.1 (zM_0 hM).1 ?_
    refine zF_iload_n 57 dX12_size_56 rfl rfl ?_
    refine zF_iaload 58 dX12_size_57 rfl (zM_0 hM).2.2 (zM_0 hM).2.1 (by omega) (by omega) (congrFun (zMo_hN (k := 0) hN hM (by decide) zMo_h1) _) ?_
    exact zF_ireturn dX12_size_58 rfl (mopR (mSc_hm5 zFr.rf) (zsi_same _ _ _ _) (by repeat (first | rw [if_pos (by omega)] | rw [if_neg (by omega)])) (by unfold sSize; (repeat (first | rw [if_pos (by omega)] | rw [if_neg (by omega)])); first | rfl | exact mBk0 | exact mBk1 | (congr 1)))
  rcases Decidable.em (w = 1) with sw1 | sw1x1
  · refine zF_swIn 52 dX12_size_6 (by first | decide | assumption | exact hb _ | exact mSh_rg hb _ _ | exact zb_rg _ | (constructor <;> omega)) (by omega) (by omega) (by rw [sw1]; rfl) rfl ?_
    refine zF_aload_n 53 dX12_size_52 rfl rfl ?_
    refine zF_getR 56 dX12_size_53 rfl gX12_9 hM.1 hM.2.1 (zM_0 hM).1 ?_
    refine zF_iload_n 57 dX12_size_56 rfl rfl ?_
    refine zF_iaload 58 dX12_size_57 rfl (zM_0 hM).2.2 (zM_0 hM).2.1 (by omega) (by omega) (congrFun (zMo_hN (k := 0) hN hM (by decide) zMo_h1) _) ?_
    exact zF_ireturn dX12_size_58 rfl (mopR (mSc_hm5 zFr.rf) (zsi_same _ _ _ _) (by repeat (first | rw [if_pos (by omega)] | rw [if_neg (by omega)])) (by unfold sSize; (repeat (first | rw [if_pos (by omega)] | rw [if_neg (by omega)])); first | rfl | exact mBk0 | exact mBk1 | (congr 1)))
  rcases Decidable.em (w = 2) with sw1 | sw1x2
  · refine zF_swIn 52 dX12_size_6 (by first | decide | assumption | exact hb _ | exact mSh_rg hb _ _ | exact zb_rg _ | (constructor <;> omega)) (by omega) (by omega) (by rw [sw1]; rfl) rfl ?_
    refine zF_aload_n 53 dX12_size_52 rfl rfl ?_
    refine zF_getR 56 dX12_size_53 rfl gX12_9 hM.1 hM.2.1 (zM_0 hM).1 ?_
    refine zF_iload_n 57 dX12_size_56 rfl rfl ?_
    refine zF_iaload 58 dX12_size_57 rfl (zM_0 hM).2.2 (zM_0 hM).2.1 (by omega) (by omega) (congrFun (zMo_hN (k := 0) hN hM (by decide) zMo_h1) _) ?_
    exact zF_ireturn dX12_size_58 rfl (mopR (mSc_hm5 zFr.rf) (zsi_same _ _ _ _) (by repeat (first | rw [if_pos (by omega)] | rw [if_neg (by omega)])) (by unfold sSize; (repeat (first | rw [if_pos (by omega)] | rw [if_neg (by omega)])); first | rfl | exact mBk0 | exact mBk1 | (congr 1)))
  rcases Decidable.em (w = 3) with sw1 | sw1x3
  · refine zF_swIn 52 dX12_size_6 (by first | decide | assumption | exact hb _ | exact mSh_rg hb _ _ | exact zb_rg _ | (constructor <;> omega)) (by omega) (by omega) (by rw [sw1]; rfl) rfl ?_
    refine zF_aload_n 53 dX12_size_52 rfl rfl ?_
    refine zF_getR 56 dX12_size_53 rfl gX12_9 hM.1 hM.2.1 (zM_0 hM).1 ?_
    refine zF_iload_n 57 dX12_size_56 rfl rfl ?_
    refine zF_iaload 58 dX12_size_57 rfl (zM_0 hM).2.2 (zM_0 hM).2.1 (by omega) (by omega) (congrFun (zMo_hN (k := 0) hN hM (by decide) zMo_h1) _) ?_
    exact zF_ireturn dX12_size_58 rfl (mopR (mSc_hm5 zFr.rf) (zsi_same _ _ _ _) (by repeat (first | rw [if_pos (by omega)] | rw [if_neg (by omega)])) (by unfold sSize; (repeat (first | rw [if_pos (by omega)] | rw [if_neg (by omega)])); first | rfl | exact mBk0 | exact mBk1 | (congr 1)))
  rcases Decidable.em (w = 4) with sw1 | sw1x4
  · refine zF_swIn 52 dX12_size_6 (by first | decide | assumption | exact hb _ | exact mSh_rg hb _ _ | exact zb_rg _ | (constructor <;> omega)) (by omega) (by omega) (by rw [sw1]; rfl) rfl ?_
    refine zF_aload_n 53 dX12_size_52 rfl rfl ?_
    refine zF_getR 56 dX12_size_53 rfl gX12_9 hM.1 hM.2.1 (zM_0 hM).1 ?_
    refine zF_iload_n 57 dX12_size_56 rfl rfl ?_
    refine zF_iaload 58 dX12_size_57 rfl (zM_0 hM).2.2 (zM_0 hM).2.1 (by omega) (by omega) (congrFun (zMo_hN (k := 0) hN hM (by decide) zMo_h1) _) ?_
    exact zF_ireturn dX12_size_58 rfl (mopR (mSc_hm5 zFr.rf) (zsi_same _ _ _ _) (by repeat (first | rw [if_pos (by omega)] | rw [if_neg (by omega)])) (by unfold sSize; (repeat (first | rw [if_pos (by omega)] | rw [if_neg (by omega)])); first | rfl | exact mBk0 | exact mBk1 | (congr 1)))
  rcases Decidable.em (w = 5) with sw1 | sw1x5
  · refine zF_swIn 52 dX12_size_6 (by first | decide | assumption | exact hb _ | exact mSh_rg hb _ _ | exact zb_rg _ | (constructor <;> omega)) (by omega) (by omega) (by rw [sw1]; rfl) rfl ?_
    refine zF_aload_n 53 dX12_size_52 rfl rfl ?_
    refine zF_getR 56 dX12_size_53 rfl gX12_9 hM.1 hM.2.1 (zM_0 hM).1 ?_
    refine zF_iload_n 57 dX12_size_56 rfl rfl ?_
    refine zF_iaload 58 dX12_size_57 rfl (zM_0 hM).2.2 (zM_0 hM).2.1 (by omega) (by omega) (congrFun (zMo_hN (k := 0) hN hM (by decide) zMo_h1) _) ?_
    exact zF_ireturn dX12_size_58 rfl (mopR (mSc_hm5 zFr.rf) (zsi_same _ _ _ _) (by repeat (first | rw [if_pos (by omega)] | rw [if_neg (by omega)])) (by unfold sSize; (repeat (first | rw [if_pos (by omega)] | rw [if_neg (by omega)])); first | rfl | exact mBk0 | exact mBk1 | (congr 1)))
  rcases Decidable.em (w = 6) with sw1 | sw1x6
  · refine zF_swIn 59 dX12_size_6 (by first | decide | assumption | exact hb _ | exact mSh_rg hb _ _ | exact zb_rg _ | (constructor <;> omega)) (by omega) (by omega) (by rw [sw1]; rfl) rfl ?_
    refine zF_aload_n 60 dX12_size_59 rfl rfl ?_
    refine zF_iconst 61 dX12_size_60 rfl ?_
    refine zF_callVi 64 (d2 := (d + 11)) (as := [zI 0]) dX12_size_61 rfl kX12_234 iX12_bookedScreens (ci := 12) rfl eX12_bookedScreens (Nat.le_refl _) hM.1 hM.2.1 rfl rfl (Nat.le_of_ble_eq_true rfl) (zt_X12_bookedScreens hM (zMo_hN (k := 0) hN hM (by decide) zMo_h1) hV (by first | decide | assumption | exact hb _ | exact mSh_rg hb _ _ | exact zb_rg _ | (constructor <;> omega))) ?_
    exact zF_ireturn dX12_size_64 rfl (mopR (mSc_hm5 zFr.rf) (zsi_same _ _ _ _) (by repeat (first | rw [if_pos (by omega)] | rw [if_neg (by omega)])) (by unfold sSize; (repeat (first | rw [if_pos (by omega)] | rw [if_neg (by omega)])); first | rfl | exact mBk0 | exact mBk1 | (congr 1)))
  rcases Decidable.em (w = 7) with sw1 | sw1x7
  · refine zF_swIn 65 dX12_size_6 (by first | decide | assumption | exact hb _ | exact mSh_rg hb _ _ | exact zb_rg _ | (constructor <;> omega)) (by omega) (by omega) (by rw [sw1]; rfl) rfl ?_
    refine zF_aload_n 66 dX12_size_65 rfl rfl ?_
    refine zF_iconst 67 dX12_size_66 rfl ?_
    refine zF_callVi 70 (d2 := (d + 11)) (as := [zI 1]) dX12_size_67 rfl kX12_234 iX12_bookedScreens (ci := 12) rfl eX12_bookedScreens (Nat.le_refl _) hM.1 hM.2.1 rfl rfl (Nat.le_of_ble_eq_true rfl) (zt_X12_bookedScreens hM (zMo_hN (k := 0) hN hM (by decide) zMo_h1) hV (by first | decide | assumption | exact hb _ | exact mSh_rg hb _ _ | exact zb_rg _ | (constructor <;> omega))) ?_
    exact zF_ireturn dX12_size_70 rfl (mopR (mSc_hm5 zFr.rf) (zsi_same _ _ _ _) (by repeat (first | rw [if_pos (by omega)] | rw [if_neg (by omega)])) (by unfold sSize; (repeat (first | rw [if_pos (by omega)] | rw [if_neg (by omega)])); first | rfl | exact mBk0 | exact mBk1 | (congr 1)))
  refine zF_swOut 71 dX12_size_6 (by first | decide | assumption | exact hb _ | exact mSh_rg hb _ _ | exact zb_rg _ | (constructor <;> omega)) (by omega) rfl ?_
  refine zF_aload_n 72 dX12_size_71 rfl rfl ?_
  refine zF_iconst 73 dX12_size_72 rfl ?_
  refine zF_callV 76 (d2 := (d + 11)) (as := [zI 1]) dX12_size_73 rfl kX12_238 iX12_raise (ci := 12) rfl eX12_raise (Nat.le_refl _) hM.1 hM.2.1 rfl rfl (Nat.le_of_ble_eq_true rfl) (zE.mono (zt_X12_raise hM) fun ro σx1 hh1 => ?_)
  obtain ⟨er1, es1⟩ := hh1
  subst er1
  subst es1
  refine ⟨rfl, ?_⟩
  exact zF_ireturn dX12_size_76 rfl (mopT (mSc_hm5 (mSc_hm5 zFr.rf)) (zsi_same _ _ _ _) (by repeat (first | rw [if_pos (by omega)] | rw [if_neg (by omega)])) (by decide))
theorem zt_X12_screen {s w : Int} (hM : zMo σ hm A) (hN : zia σ (A 0) = N) (hV : mV N) (hW : mW N) (zrs : zrg s) (zrw : zrg w) : zE G mX12_screen (d + 12) [zR hm, zI s, zI w] σ (mop (if 0 ≤ s ∧ s < N 1 then if 0 ≤ w ∧ w ≤ 8 then 0 else 1 else 1) (sScreen N s w) hm A σ) := by
  refine zE_of rfl (by simp [zcat]) (Nat.le_of_ble_eq_true rfl) ?_
  show zF G mX12_screen (d + 12) 0 [(0, zR hm), (1, zI s), (2, zI w)] [] σ _
  have hb := hV.b
  have hn := hV.n
  refine zF_aload_n 1 dX12_screen_0 rfl rfl ?_
  refine zF_iconst 2 dX12_screen_1 rfl ?_
  refine zF_putI 5 dX12_screen_2 rfl pX12_screen_89 (Or.inl rfl) hM.1 hM.2.1 ?_
  refine zF_aload_n 6 dX12_screen_5 rfl rfl ?_
  refine zF_iload_n 7 dX12_screen_6 rfl rfl ?_
  refine zF_callVi 10 (d2 := (d + 11)) (as := [zI s]) dX12_screen_7 rfl kX12_256 iX12_isScreen (ci := 12) rfl eX12_isScreen (Nat.le_refl _) hM.1 hM.2.1 rfl rfl (Nat.le_of_ble_eq_true rfl) (zn_X12_isScreen hM (zMo_hN (k := 0) hN hM (by decide) zMo_h1) (by first | decide | assumption | exact hb _ | exact mSh_rg hb _ _ | exact zb_rg _ | (constructor <;> omega)) (by omega) (by omega)) ?_
  refine zF_ifb_eq 23 13 dX12_screen_10 rfl rfl (fun c1 => ?_) (fun c1 => ?_)
  · refine zF_aload_n 24 dX12_screen_23 rfl rfl ?_
    refine zF_iconst 25 dX12_screen_24 rfl ?_
    refine zF_callV 28 (d2 := (d + 11)) (as := [zI 1]) dX12_screen_25 rfl kX12_238 iX12_raise (ci := 12) rfl eX12_raise (Nat.le_refl _) hM.1 hM.2.1 rfl rfl (Nat.le_of_ble_eq_true rfl) (zE.mono (zt_X12_raise hM) fun ro σx1 hh1 => ?_)
    obtain ⟨er1, es1⟩ := hh1
    subst er1
    subst es1
    refine ⟨rfl, ?_⟩
    exact zF_ireturn dX12_screen_28 rfl (mopT (mSc_hm5 (mSc_hm5 zFr.rf)) (zsi_same _ _ _ _) (by repeat (first | rw [if_pos (by omega)] | rw [if_neg (by omega)])) (by decide))
  · refine zF_iload_n 14 dX12_screen_13 rfl rfl ?_
    refine zF_iconst 15 dX12_screen_14 rfl ?_
    refine zF_bipush 17 dX12_screen_15 rfl (by decide) ?_
    refine zF_callSi 20 (d2 := (d + 11)) (as := [zI w, zI 0, zI 8]) dX12_screen_17 rfl kX12_109 sX12_inRange (Nat.le_refl _) rfl rfl (Nat.le_of_ble_eq_true rfl) (zt_X12_inRange (by first | decide | assumption | exact hb _ | exact mSh_rg hb _ _ | exact zb_rg _ | (constructor <;> omega)) (by first | decide | assumption | exact hb _ | exact mSh_rg hb _ _ | exact zb_rg _ | (constructor <;> omega)) (by first | decide | assumption | exact hb _ | exact mSh_rg hb _ _ | exact zb_rg _ | (constructor <;> omega))) ?_
    refine zF_ifb_ne 29 23 dX12_screen_20 rfl rfl (fun c2 => ?_) (fun c2 => ?_)
    · refine zF_iload_n 30 dX12_screen_29 rfl rfl ?_
      refine zF_bipush 32 dX12_screen_30 rfl (by decide) ?_
      refine zF_icmp_gt 42 35 dX12_screen_32 rfl rfl (by first | decide | assumption | exact hb _ | exact mSh_rg hb _ _ | exact zb_rg _ | (constructor <;> omega)) (by first | decide | assumption | exact hb _ | exact mSh_rg hb _ _ | exact zb_rg _ | (constructor <;> omega)) (fun c3 => ?_) (fun c3 => ?_)
      · refine zF_aload_n 43 dX12_screen_42 rfl rfl ?_
        refine zF_callV 46 (d2 := (d + 11)) (as := []) dX12_screen_43 rfl kX12_244 iX12_layWeek (ci := 12) rfl eX12_layWeek (Nat.le_refl _) hM.1 hM.2.1 rfl rfl (Nat.le_of_ble_eq_true rfl) (zE.mono (zt_X12_layWeek hM (zMo_hN (k := 0) hN hM (by decide) zMo_h1) hV hW) fun ro σa2 hh2 => ?_)
        obtain ⟨er2, fr2, p2⟩ := hh2
        subst er2
        refine ⟨fr2.1, ?_⟩
        show zF G mX12_screen (d + 12) 46 [(0, zR hm), (1, zI s), (2, zI w)] [] σa2 _
        have hMa2 := zMo_f2 fr2 hM
        have hNa2 : zia σa2 (A 0) = N := zFr_N (σ := (zsi σ hm ((5 : Nat) : Int) 0)) hM (zMo_hN (k := 0) hN hM (by decide) zMo_h1) fr2
        have hga2 := gOK_V hV p2
        refine zF_aload_n 47 dX12_screen_46 rfl rfl ?_
        refine zF_iload_n 48 dX12_screen_47 rfl rfl ?_
        refine zF_callVi 51 (d2 := (d + 11)) (as := [zI s]) dX12_screen_48 rfl kX12_259 iX12_takingsOf (ci := 12) rfl eX12_takingsOf (Nat.le_refl _) hMa2.1 hMa2.2.1 rfl rfl (Nat.le_of_ble_eq_true rfl) (zn_X12_takingsOf hMa2 hNa2 rfl hV (by omega) (by omega)) ?_
        exact zF_ireturn dX12_screen_51 rfl (mopR (mSc_fr78 (mSc_hm5 zFr.rf) fr2) (zFr_F fr2 (n78 hM (j := 0)) (zsi_same _ _ _ _)) (by repeat (first | rw [if_pos (by omega)] | rw [if_neg (by omega)])) (by unfold sScreen; rw [if_pos (by omega)]; exact gTake_eq p2 (by omega) (by omega)))
      · refine zF_aload_n 36 dX12_screen_35 rfl rfl ?_
        refine zF_iload_n 37 dX12_screen_36 rfl rfl ?_
        refine zF_iload_n 38 dX12_screen_37 rfl rfl ?_
        refine zF_callVi 41 (d2 := (d + 11)) (as := [zI s, zI w]) dX12_screen_38 rfl kX12_119 iX12_of (ci := 12) rfl eX12_of (Nat.le_refl _) hM.1 hM.2.1 rfl rfl (Nat.le_of_ble_eq_true rfl) (zn_X12_of hM (zMo_hN (k := 0) hN hM (by decide) zMo_h1) (by omega) (by omega)) ?_
        exact zF_ireturn dX12_screen_41 rfl (mopR (mSc_hm5 zFr.rf) (zsi_same _ _ _ _) (by repeat (first | rw [if_pos (by omega)] | rw [if_neg (by omega)])) (by unfold sScreen; rw [if_neg (by omega)]))
    · refine zF_aload_n 24 dX12_screen_23 rfl rfl ?_
      refine zF_iconst 25 dX12_screen_24 rfl ?_
      refine zF_callV 28 (d2 := (d + 11)) (as := [zI 1]) dX12_screen_25 rfl kX12_238 iX12_raise (ci := 12) rfl eX12_raise (Nat.le_refl _) hM.1 hM.2.1 rfl rfl (Nat.le_of_ble_eq_true rfl) (zE.mono (zt_X12_raise hM) fun ro σx3 hh3 => ?_)
      obtain ⟨er3, es3⟩ := hh3
      subst er3
      subst es3
      refine ⟨rfl, ?_⟩
      exact zF_ireturn dX12_screen_28 rfl (mopT (mSc_hm5 (mSc_hm5 zFr.rf)) (zsi_same _ _ _ _) (by repeat (first | rw [if_pos (by omega)] | rw [if_neg (by omega)])) (by decide))
theorem zt_X12_film {f w : Int} (hM : zMo σ hm A) (hN : zia σ (A 0) = N) (hV : mV N) (hW : mW N) (zrf : zrg f) (zrw : zrg w) : zE G mX12_film (d + 12) [zR hm, zI f, zI w] σ (mop (if 0 ≤ f ∧ f < N 2 then if 0 ≤ w ∧ w ≤ 7 then 0 else 1 else 1) (sFilm N f w) hm A σ) := by
  refine zE_of rfl (by simp [zcat]) (Nat.le_of_ble_eq_true rfl) ?_
  show zF G mX12_film (d + 12) 0 [(0, zR hm), (1, zI f), (2, zI w)] [] σ _
  have hb := hV.b
  have hn := hV.n
  refine zF_aload_n 1 dX12_film_0 rfl rfl ?_
  refine zF_iconst 2 dX12_film_1 rfl ?_
  refine zF_putI 5 dX12_film_2 rfl pX12_film_89 (Or.inl rfl) hM.1 hM.2.1 ?_
  refine zF_aload_n 6 dX12_film_5 rfl rfl ?_
  refine zF_iload_n 7 dX12_film_6 rfl rfl ?_
  refine zF_callVi 10 (d2 := (d + 11)) (as := [zI f]) dX12_film_7 rfl kX12_262 iX12_isFilm (ci := 12) rfl eX12_isFilm (Nat.le_refl _) hM.1 hM.2.1 rfl rfl (Nat.le_of_ble_eq_true rfl) (zn_X12_isFilm hM (zMo_hN (k := 0) hN hM (by decide) zMo_h1) (by first | decide | assumption | exact hb _ | exact mSh_rg hb _ _ | exact zb_rg _ | (constructor <;> omega)) (by omega) (by omega)) ?_
  refine zF_ifb_ne 19 13 dX12_film_10 rfl rfl (fun c1 => ?_) (fun c1 => ?_)
  · refine zF_iload_n 20 dX12_film_19 rfl rfl ?_
    rcases Decidable.em (w = 0) with sw2 | sw2x0
    · refine zF_swIn 68 dX12_film_20 (by first | decide | assumption | exact hb _ | exact mSh_rg hb _ _ | exact zb_rg _ | (constructor <;> omega)) (by omega) (by omega) (by rw [sw2]; rfl) rfl ?_
      refine zF_aload_n 69 dX12_film_68 rfl rfl ?_
      refine zF_iload_n 70 dX12_film_69 rfl rfl ?_
      refine zF_iload_n 71 dX12_film_70 rfl rfl ?_
      refine zF_callVi 74 (d2 := (d + 11)) (as := [zI f, zI w]) dX12_film_71 rfl kX12_148 iX12_ofFilm (ci := 12) rfl eX12_ofFilm (Nat.le_refl _) hM.1 hM.2.1 rfl rfl (Nat.le_of_ble_eq_true rfl) (zn_X12_ofFilm hM (zMo_hN (k := 0) hN hM (by decide) zMo_h1) (by omega) (by omega)) ?_
      exact zF_ireturn dX12_film_74 rfl (mopR (mSc_hm5 zFr.rf) (zsi_same _ _ _ _) (by repeat (first | rw [if_pos (by omega)] | rw [if_neg (by omega)])) (by unfold sFilm; (repeat (first | rw [if_pos (by omega)] | rw [if_neg (by omega)])); first | done | rfl | (congr 1; omega)))
    rcases Decidable.em (w = 1) with sw2 | sw2x1
    · refine zF_swIn 68 dX12_film_20 (by first | decide | assumption | exact hb _ | exact mSh_rg hb _ _ | exact zb_rg _ | (constructor <;> omega)) (by omega) (by omega) (by rw [sw2]; rfl) rfl ?_
      refine zF_aload_n 69 dX12_film_68 rfl rfl ?_
      refine zF_iload_n 70 dX12_film_69 rfl rfl ?_
      refine zF_iload_n 71 dX12_film_70 rfl rfl ?_
      refine zF_callVi 74 (d2 := (d + 11)) (as := [zI f, zI w]) dX12_film_71 rfl kX12_148 iX12_ofFilm (ci := 12) rfl eX12_ofFilm (Nat.le_refl _) hM.1 hM.2.1 rfl rfl (Nat.le_of_ble_eq_true rfl) (zn_X12_ofFilm hM (zMo_hN (k := 0) hN hM (by decide) zMo_h1) (by omega) (by omega)) ?_
      exact zF_ireturn dX12_film_74 rfl (mopR (mSc_hm5 zFr.rf) (zsi_same _ _ _ _) (by repeat (first | rw [if_pos (by omega)] | rw [if_neg (by omega)])) (by unfold sFilm; (repeat (first | rw [if_pos (by omega)] | rw [if_neg (by omega)])); first | done | rfl | (congr 1; omega)))
    rcases Decidable.em (w = 2) with sw2 | sw2x2
    · refine zF_swIn 68 dX12_film_20 (by first | decide | assumption | exact hb _ | exact mSh_rg hb _ _ | exact zb_rg _ | (constructor <;> omega)) (by omega) (by omega) (by rw [sw2]; rfl) rfl ?_
      refine zF_aload_n 69 dX12_film_68 rfl rfl ?_
      refine zF_iload_n 70 dX12_film_69 rfl rfl ?_
      refine zF_iload_n 71 dX12_film_70 rfl rfl ?_
      refine zF_callVi 74 (d2 := (d + 11)) (as := [zI f, zI w]) dX12_film_71 rfl kX12_148 iX12_ofFilm (ci := 12) rfl eX12_ofFilm (Nat.le_refl _) hM.1 hM.2.1 rfl rfl (Nat.le_of_ble_eq_true rfl) (zn_X12_ofFilm hM (zMo_hN (k := 0) hN hM (by decide) zMo_h1) (by omega) (by omega)) ?_
      exact zF_ireturn dX12_film_74 rfl (mopR (mSc_hm5 zFr.rf) (zsi_same _ _ _ _) (by repeat (first | rw [if_pos (by omega)] | rw [if_neg (by omega)])) (by unfold sFilm; (repeat (first | rw [if_pos (by omega)] | rw [if_neg (by omega)])); first | done | rfl | (congr 1; omega)))
    rcases Decidable.em (w = 3) with sw2 | sw2x3
    · refine zF_swIn 68 dX12_film_20 (by first | decide | assumption | exact hb _ | exact mSh_rg hb _ _ | exact zb_rg _ | (constructor <;> omega)) (by omega) (by omega) (by rw [sw2]; rfl) rfl ?_
      refine zF_aload_n 69 dX12_film_68 rfl rfl ?_
      refine zF_iload_n 70 dX12_film_69 rfl rfl ?_
      refine zF_iload_n 71 dX12_film_70 rfl rfl ?_
      refine zF_callVi 74 (d2 := (d + 11)) (as := [zI f, zI w]) dX12_film_71 rfl kX12_148 iX12_ofFilm (ci := 12) rfl eX12_ofFilm (Nat.le_refl _) hM.1 hM.2.1 rfl rfl (Nat.le_of_ble_eq_true rfl) (zn_X12_ofFilm hM (zMo_hN (k := 0) hN hM (by decide) zMo_h1) (by omega) (by omega)) ?_
      exact zF_ireturn dX12_film_74 rfl (mopR (mSc_hm5 zFr.rf) (zsi_same _ _ _ _) (by repeat (first | rw [if_pos (by omega)] | rw [if_neg (by omega)])) (by unfold sFilm; (repeat (first | rw [if_pos (by omega)] | rw [if_neg (by omega)])); first | done | rfl | (congr 1; omega)))
    rcases Decidable.em (w = 4) with sw2 | sw2x4
    · refine zF_swIn 75 dX12_film_20 (by first | decide | assumption | exact hb _ | exact mSh_rg hb _ _ | exact zb_rg _ | (constructor <;> omega)) (by omega) (by omega) (by rw [sw2]; rfl) rfl ?_
      refine zF_aload_n 76 dX12_film_75 rfl rfl ?_
      refine zF_iload_n 77 dX12_film_76 rfl rfl ?_
      refine zF_callVi 80 (d2 := (d + 11)) (as := [zI f]) dX12_film_77 rfl kX12_151 iX12_ageOf (ci := 12) rfl eX12_ageOf (Nat.le_refl _) hM.1 hM.2.1 rfl rfl (Nat.le_of_ble_eq_true rfl) (zn_X12_ageOf hM (zMo_hN (k := 0) hN hM (by decide) zMo_h1) hV (by omega) (by omega)) ?_
      exact zF_ireturn dX12_film_80 rfl (mopR (mSc_hm5 zFr.rf) (zsi_same _ _ _ _) (by repeat (first | rw [if_pos (by omega)] | rw [if_neg (by omega)])) (by unfold sFilm; (repeat (first | rw [if_pos (by omega)] | rw [if_neg (by omega)])); first | done | rfl | (congr 1; omega)))
    rcases Decidable.em (w = 5) with sw2 | sw2x5
    · refine zF_swIn 81 dX12_film_20 (by first | decide | assumption | exact hb _ | exact mSh_rg hb _ _ | exact zb_rg _ | (constructor <;> omega)) (by omega) (by omega) (by rw [sw2]; rfl) rfl ?_
      refine zF_aload_n 82 dX12_film_81 rfl rfl ?_
      refine zF_iload_n 83 dX12_film_82 rfl rfl ?_
      refine zF_callVi 86 (d2 := (d + 11)) (as := [zI f]) dX12_film_83 rfl kX12_158 iX12_demandOf (ci := 12) rfl eX12_demandOf (Nat.le_refl _) hM.1 hM.2.1 rfl rfl (Nat.le_of_ble_eq_true rfl) (zn_X12_demandOf hM (zMo_hN (k := 0) hN hM (by decide) zMo_h1) hV (by omega) (by omega)) ?_
      exact zF_ireturn dX12_film_86 rfl (mopR (mSc_hm5 zFr.rf) (zsi_same _ _ _ _) (by repeat (first | rw [if_pos (by omega)] | rw [if_neg (by omega)])) (by unfold sFilm; (repeat (first | rw [if_pos (by omega)] | rw [if_neg (by omega)])); first | done | rfl | (congr 1; omega)))
    rcases Decidable.em (w = 6) with sw2 | sw2x6
    · refine zF_swIn 87 dX12_film_20 (by first | decide | assumption | exact hb _ | exact mSh_rg hb _ _ | exact zb_rg _ | (constructor <;> omega)) (by omega) (by omega) (by rw [sw2]; rfl) rfl ?_
      refine zF_aload_n 88 dX12_film_87 rfl rfl ?_
      refine zF_callV 91 (d2 := (d + 11)) (as := []) dX12_film_88 rfl kX12_244 iX12_layWeek (ci := 12) rfl eX12_layWeek (Nat.le_refl _) hM.1 hM.2.1 rfl rfl (Nat.le_of_ble_eq_true rfl) (zE.mono (zt_X12_layWeek hM (zMo_hN (k := 0) hN hM (by decide) zMo_h1) hV hW) fun ro σa1 hh1 => ?_)
      obtain ⟨er1, fr1, p1⟩ := hh1
      subst er1
      refine ⟨fr1.1, ?_⟩
      show zF G mX12_film (d + 12) 91 [(0, zR hm), (1, zI f), (2, zI w)] [] σa1 _
      have hMa1 := zMo_f2 fr1 hM
      have hNa1 : zia σa1 (A 0) = N := zFr_N (σ := (zsi σ hm ((5 : Nat) : Int) 0)) hM (zMo_hN (k := 0) hN hM (by decide) zMo_h1) fr1
      have hga1 := gOK_V hV p1
      refine zF_aload_n 92 dX12_film_91 rfl rfl ?_
      refine zF_iconst 93 dX12_film_92 rfl ?_
      refine zF_iload_n 94 dX12_film_93 rfl rfl ?_
      refine zF_callVi 97 (d2 := (d + 11)) (as := [zI (-1), zI f]) dX12_film_94 rfl kX12_187 iX12_takingsIn (ci := 12) rfl eX12_takingsIn (Nat.le_refl _) hMa1.1 hMa1.2.1 rfl rfl (Nat.le_of_ble_eq_true rfl) (zn_X12_takingsIn hMa1 hNa1 rfl hV (by first | decide | assumption | exact hb _ | exact mSh_rg hb _ _ | exact zb_rg _ | (constructor <;> omega)) (by first | decide | assumption | exact hb _ | exact mSh_rg hb _ _ | exact zb_rg _ | (constructor <;> omega))) ?_
      exact zF_ireturn dX12_film_97 rfl (mopR (mSc_fr78 (mSc_hm5 zFr.rf) fr1) (zFr_F fr1 (n78 hM (j := 0)) (zsi_same _ _ _ _)) (by repeat (first | rw [if_pos (by omega)] | rw [if_neg (by omega)])) (by unfold sFilm; (repeat (first | rw [if_pos (by omega)] | rw [if_neg (by omega)])); exact gIn_films hV hW p1 (by omega)))
    rcases Decidable.em (w = 7) with sw2 | sw2x7
    · refine zF_swIn 98 dX12_film_20 (by first | decide | assumption | exact hb _ | exact mSh_rg hb _ _ | exact zb_rg _ | (constructor <;> omega)) (by omega) (by omega) (by rw [sw2]; rfl) rfl ?_
      refine zF_aload_n 99 dX12_film_98 rfl rfl ?_
      refine zF_iload_n 100 dX12_film_99 rfl rfl ?_
      refine zF_bipush 102 dX12_film_100 rfl (by decide) ?_
      refine zF_callVi 105 (d2 := (d + 11)) (as := [zI f, zI 9]) dX12_film_102 rfl kX12_148 iX12_ofFilm (ci := 12) rfl eX12_ofFilm (Nat.le_refl _) hM.1 hM.2.1 rfl rfl (Nat.le_of_ble_eq_true rfl) (zn_X12_ofFilm hM (zMo_hN (k := 0) hN hM (by decide) zMo_h1) (by omega) (by omega)) ?_
      exact zF_ireturn dX12_film_105 rfl (mopR (mSc_hm5 zFr.rf) (zsi_same _ _ _ _) (by repeat (first | rw [if_pos (by omega)] | rw [if_neg (by omega)])) (by unfold sFilm; (repeat (first | rw [if_pos (by omega)] | rw [if_neg (by omega)])); first | done | rfl | (congr 1; omega)))
    refine zF_swOut 106 dX12_film_20 (by first | decide | assumption | exact hb _ | exact mSh_rg hb _ _ | exact zb_rg _ | (constructor <;> omega)) (by omega) rfl ?_
    refine zF_aload_n 107 dX12_film_106 rfl rfl ?_
    refine zF_iconst 108 dX12_film_107 rfl ?_
    refine zF_callV 111 (d2 := (d + 11)) (as := [zI 1]) dX12_film_108 rfl kX12_238 iX12_raise (ci := 12) rfl eX12_raise (Nat.le_refl _) hM.1 hM.2.1 rfl rfl (Nat.le_of_ble_eq_true rfl) (zE.mono (zt_X12_raise hM) fun ro σx2 hh2 => ?_)
    obtain ⟨er2, es2⟩ := hh2
    subst er2
    subst es2
    refine ⟨rfl, ?_⟩
    exact zF_ireturn dX12_film_111 rfl (mopT (mSc_hm5 (mSc_hm5 zFr.rf)) (zsi_same _ _ _ _) (by repeat (first | rw [if_pos (by omega)] | rw [if_neg (by omega)])) (by decide))
  · refine zF_aload_n 14 dX12_film_13 rfl rfl ?_
    refine zF_iconst 15 dX12_film_14 rfl ?_
    refine zF_callV 18 (d2 := (d + 11)) (as := [zI 1]) dX12_film_15 rfl kX12_238 iX12_raise (ci := 12) rfl eX12_raise (Nat.le_refl _) hM.1 hM.2.1 rfl rfl (Nat.le_of_ble_eq_true rfl) (zE.mono (zt_X12_raise hM) fun ro σx3 hh3 => ?_)
    obtain ⟨er3, es3⟩ := hh3
    subst er3
    subst es3
    refine ⟨rfl, ?_⟩
    exact zF_ireturn dX12_film_18 rfl (mopT (mSc_hm5 (mSc_hm5 zFr.rf)) (zsi_same _ _ _ _) (by repeat (first | rw [if_pos (by omega)] | rw [if_neg (by omega)])) (by decide))
theorem zt_X12_term {f i : Int} (hM : zMo σ hm A) (hN : zia σ (A 0) = N) (hV : mV N) (zrf : zrg f) (zri : zrg i) : zE G mX12_term (d + 12) [zR hm, zI f, zI i] σ (mop (if 0 ≤ f ∧ f < N 2 then if 0 ≤ i ∧ i < mF N f 3 then 0 else 1 else 1) (mF N f (4 + i)) hm A σ) := by
  refine zE_of rfl (by simp [zcat]) (Nat.le_of_ble_eq_true rfl) ?_
  show zF G mX12_term (d + 12) 0 [(0, zR hm), (1, zI f), (2, zI i)] [] σ _
  have hb := hV.b
  have hn := hV.n
  refine zF_aload_n 1 dX12_term_0 rfl rfl ?_
  refine zF_iconst 2 dX12_term_1 rfl ?_
  refine zF_putI 5 dX12_term_2 rfl pX12_term_89 (Or.inl rfl) hM.1 hM.2.1 ?_
  refine zF_aload_n 6 dX12_term_5 rfl rfl ?_
  refine zF_iload_n 7 dX12_term_6 rfl rfl ?_
  refine zF_callVi 10 (d2 := (d + 11)) (as := [zI f]) dX12_term_7 rfl kX12_262 iX12_isFilm (ci := 12) rfl eX12_isFilm (Nat.le_refl _) hM.1 hM.2.1 rfl rfl (Nat.le_of_ble_eq_true rfl) (zn_X12_isFilm hM (zMo_hN (k := 0) hN hM (by decide) zMo_h1) (by first | decide | assumption | exact hb _ | exact mSh_rg hb _ _ | exact zb_rg _ | (constructor <;> omega)) (by omega) (by omega)) ?_
  refine zF_ifb_eq 40 13 dX12_term_10 rfl rfl (fun c1 => ?_) (fun c1 => ?_)
  · refine zF_aload_n 41 dX12_term_40 rfl rfl ?_
    refine zF_iconst 42 dX12_term_41 rfl ?_
    refine zF_callV 45 (d2 := (d + 11)) (as := [zI 1]) dX12_term_42 rfl kX12_238 iX12_raise (ci := 12) rfl eX12_raise (Nat.le_refl _) hM.1 hM.2.1 rfl rfl (Nat.le_of_ble_eq_true rfl) (zE.mono (zt_X12_raise hM) fun ro σx1 hh1 => ?_)
    obtain ⟨er1, es1⟩ := hh1
    subst er1
    subst es1
    refine ⟨rfl, ?_⟩
    exact zF_ireturn dX12_term_45 rfl (mopT (mSc_hm5 (mSc_hm5 zFr.rf)) (zsi_same _ _ _ _) (by repeat (first | rw [if_pos (by omega)] | rw [if_neg (by omega)])) (by decide))
  · have qf := hV.f f (by omega) (by omega)
    refine zF_iload_n 14 dX12_term_13 rfl rfl ?_
    refine zF_iconst 15 dX12_term_14 rfl ?_
    refine zF_aload_n 16 dX12_term_15 rfl rfl ?_
    refine zF_iload_n 17 dX12_term_16 rfl rfl ?_
    refine zF_iconst 18 dX12_term_17 rfl ?_
    refine zF_callVi 21 (d2 := (d + 11)) (as := [zI f, zI 3]) dX12_term_18 rfl kX12_148 iX12_ofFilm (ci := 12) rfl eX12_ofFilm (Nat.le_refl _) hM.1 hM.2.1 rfl rfl (Nat.le_of_ble_eq_true rfl) (zn_X12_ofFilm hM (zMo_hN (k := 0) hN hM (by decide) zMo_h1) (by omega) (by omega)) ?_
    refine zF_iconst 22 dX12_term_21 rfl ?_
    refine zF_isub 23 dX12_term_22 rfl ?_
    refine zF_callSi 26 (d2 := (d + 11)) (as := [zI i, zI 0, zI ((mF N f 3) - 1)]) dX12_term_23 rfl kX12_109 sX12_inRange (Nat.le_refl _) rfl rfl (Nat.le_of_ble_eq_true rfl) (zt_X12_inRange (by first | decide | assumption | exact hb _ | exact mSh_rg hb _ _ | exact zb_rg _ | (constructor <;> omega)) (by first | decide | assumption | exact hb _ | exact mSh_rg hb _ _ | exact zb_rg _ | (constructor <;> omega)) (by first | decide | assumption | exact hb _ | exact mSh_rg hb _ _ | exact zb_rg _ | (constructor <;> omega))) ?_
    refine zF_ifb_eq 40 29 dX12_term_26 rfl rfl (fun c2 => ?_) (fun c2 => ?_)
    · refine zF_aload_n 41 dX12_term_40 rfl rfl ?_
      refine zF_iconst 42 dX12_term_41 rfl ?_
      refine zF_callV 45 (d2 := (d + 11)) (as := [zI 1]) dX12_term_42 rfl kX12_238 iX12_raise (ci := 12) rfl eX12_raise (Nat.le_refl _) hM.1 hM.2.1 rfl rfl (Nat.le_of_ble_eq_true rfl) (zE.mono (zt_X12_raise hM) fun ro σx2 hh2 => ?_)
      obtain ⟨er2, es2⟩ := hh2
      subst er2
      subst es2
      refine ⟨rfl, ?_⟩
      exact zF_ireturn dX12_term_45 rfl (mopT (mSc_hm5 (mSc_hm5 zFr.rf)) (zsi_same _ _ _ _) (by repeat (first | rw [if_pos (by omega)] | rw [if_neg (by omega)])) (by decide))
    · refine zF_aload_n 30 dX12_term_29 rfl rfl ?_
      refine zF_iload_n 31 dX12_term_30 rfl rfl ?_
      refine zF_iconst 32 dX12_term_31 rfl ?_
      refine zF_iload_n 33 dX12_term_32 rfl rfl ?_
      refine zF_iadd 34 dX12_term_33 rfl ?_
      refine zF_callVi 37 (d2 := (d + 11)) (as := [zI f, zI (4 + i)]) dX12_term_34 rfl kX12_148 iX12_ofFilm (ci := 12) rfl eX12_ofFilm (Nat.le_refl _) hM.1 hM.2.1 rfl rfl (Nat.le_of_ble_eq_true rfl) (zn_X12_ofFilm hM (zMo_hN (k := 0) hN hM (by decide) zMo_h1) (by omega) (by omega)) ?_
      refine zF_goto 45 dX12_term_37 rfl ?_
      exact zF_ireturn dX12_term_45 rfl (mopR (mSc_hm5 zFr.rf) (zsi_same _ _ _ _) (by repeat (first | rw [if_pos (by omega)] | rw [if_neg (by omega)])) (rfl))
theorem zt_X12_prints {f p : Int} (hM : zMo σ hm A) (hN : zia σ (A 0) = N) (hV : mV N) (zrf : zrg f) (zrp : zrg p) : zE G mX12_prints (d + 12) [zR hm, zI f, zI p] σ (mop (if 0 ≤ f ∧ f < N 2 then if -1 ≤ p ∧ p < N 0 then 0 else 1 else 1) (mP N f p) hm A σ) := by
  refine zE_of rfl (by simp [zcat]) (Nat.le_of_ble_eq_true rfl) ?_
  show zF G mX12_prints (d + 12) 0 [(0, zR hm), (1, zI f), (2, zI p)] [] σ _
  have hb := hV.b
  have hn := hV.n
  refine zF_aload_n 1 dX12_prints_0 rfl rfl ?_
  refine zF_iconst 2 dX12_prints_1 rfl ?_
  refine zF_putI 5 dX12_prints_2 rfl pX12_prints_89 (Or.inl rfl) hM.1 hM.2.1 ?_
  refine zF_aload_n 6 dX12_prints_5 rfl rfl ?_
  refine zF_iload_n 7 dX12_prints_6 rfl rfl ?_
  refine zF_callVi 10 (d2 := (d + 11)) (as := [zI f]) dX12_prints_7 rfl kX12_262 iX12_isFilm (ci := 12) rfl eX12_isFilm (Nat.le_refl _) hM.1 hM.2.1 rfl rfl (Nat.le_of_ble_eq_true rfl) (zn_X12_isFilm hM (zMo_hN (k := 0) hN hM (by decide) zMo_h1) (by first | decide | assumption | exact hb _ | exact mSh_rg hb _ _ | exact zb_rg _ | (constructor <;> omega)) (by omega) (by omega)) ?_
  refine zF_ifb_eq 30 13 dX12_prints_10 rfl rfl (fun c1 => ?_) (fun c1 => ?_)
  · refine zF_aload_n 31 dX12_prints_30 rfl rfl ?_
    refine zF_iconst 32 dX12_prints_31 rfl ?_
    refine zF_callV 35 (d2 := (d + 11)) (as := [zI 1]) dX12_prints_32 rfl kX12_238 iX12_raise (ci := 12) rfl eX12_raise (Nat.le_refl _) hM.1 hM.2.1 rfl rfl (Nat.le_of_ble_eq_true rfl) (zE.mono (zt_X12_raise hM) fun ro σx1 hh1 => ?_)
    obtain ⟨er1, es1⟩ := hh1
    subst er1
    subst es1
    refine ⟨rfl, ?_⟩
    exact zF_ireturn dX12_prints_35 rfl (mopT (mSc_hm5 (mSc_hm5 zFr.rf)) (zsi_same _ _ _ _) (by repeat (first | rw [if_pos (by omega)] | rw [if_neg (by omega)])) (by decide))
  · refine zF_aload_n 14 dX12_prints_13 rfl rfl ?_
    refine zF_iload_n 15 dX12_prints_14 rfl rfl ?_
    refine zF_callVi 18 (d2 := (d + 11)) (as := [zI p]) dX12_prints_15 rfl kX12_265 iX12_isPlace (ci := 12) rfl eX12_isPlace (Nat.le_refl _) hM.1 hM.2.1 rfl rfl (Nat.le_of_ble_eq_true rfl) (zn_X12_isPlace hM (zMo_hN (k := 0) hN hM (by decide) zMo_h1) (by first | decide | assumption | exact hb _ | exact mSh_rg hb _ _ | exact zb_rg _ | (constructor <;> omega)) (by omega) (by omega)) ?_
    refine zF_ifb_eq 30 21 dX12_prints_18 rfl rfl (fun c2 => ?_) (fun c2 => ?_)
    · refine zF_aload_n 31 dX12_prints_30 rfl rfl ?_
      refine zF_iconst 32 dX12_prints_31 rfl ?_
      refine zF_callV 35 (d2 := (d + 11)) (as := [zI 1]) dX12_prints_32 rfl kX12_238 iX12_raise (ci := 12) rfl eX12_raise (Nat.le_refl _) hM.1 hM.2.1 rfl rfl (Nat.le_of_ble_eq_true rfl) (zE.mono (zt_X12_raise hM) fun ro σx2 hh2 => ?_)
      obtain ⟨er2, es2⟩ := hh2
      subst er2
      subst es2
      refine ⟨rfl, ?_⟩
      exact zF_ireturn dX12_prints_35 rfl (mopT (mSc_hm5 (mSc_hm5 zFr.rf)) (zsi_same _ _ _ _) (by repeat (first | rw [if_pos (by omega)] | rw [if_neg (by omega)])) (by decide))
    · refine zF_aload_n 22 dX12_prints_21 rfl rfl ?_
      refine zF_iload_n 23 dX12_prints_22 rfl rfl ?_
      refine zF_iload_n 24 dX12_prints_23 rfl rfl ?_
      refine zF_callVi 27 (d2 := (d + 11)) (as := [zI f, zI p]) dX12_prints_24 rfl kX12_202 iX12_printsOf (ci := 12) rfl eX12_printsOf (Nat.le_refl _) hM.1 hM.2.1 rfl rfl (Nat.le_of_ble_eq_true rfl) (zn_X12_printsOf hM (zMo_hN (k := 0) hN hM (by decide) zMo_h1) (by omega) (by omega)) ?_
      refine zF_goto 35 dX12_prints_27 rfl ?_
      exact zF_ireturn dX12_prints_35 rfl (mopR (mSc_hm5 zFr.rf) (zsi_same _ _ _ _) (by repeat (first | rw [if_pos (by omega)] | rw [if_neg (by omega)])) (rfl))
theorem zt_X12_shown {s b : Int} (hM : zMo σ hm A) (hN : zia σ (A 0) = N) (hV : mV N) (zrs : zrg s) (zrb : zrg b) : zE G mX12_shown (d + 12) [zR hm, zI s, zI b] σ (mop (if 0 ≤ s ∧ s < N 1 then if 0 ≤ b ∧ b < 7 then 0 else 2 else 1) (mSh N s b) hm A σ) := by
  refine zE_of rfl (by simp [zcat]) (Nat.le_of_ble_eq_true rfl) ?_
  show zF G mX12_shown (d + 12) 0 [(0, zR hm), (1, zI s), (2, zI b)] [] σ _
  have hb := hV.b
  have hn := hV.n
  refine zF_aload_n 1 dX12_shown_0 rfl rfl ?_
  refine zF_aload_n 2 dX12_shown_1 rfl rfl ?_
  refine zF_iload_n 3 dX12_shown_2 rfl rfl ?_
  refine zF_callVi 6 (d2 := (d + 11)) (as := [zI s]) dX12_shown_3 rfl kX12_256 iX12_isScreen (ci := 12) rfl eX12_isScreen (Nat.le_refl _) hM.1 hM.2.1 rfl rfl (Nat.le_of_ble_eq_true rfl) (zn_X12_isScreen hM hN (by first | decide | assumption | exact hb _ | exact mSh_rg hb _ _ | exact zb_rg _ | (constructor <;> omega)) (by omega) (by omega)) ?_
  refine zF_ifb_ne 13 9 dX12_shown_6 rfl rfl (fun c1 => ?_) (fun c1 => ?_)
  · refine zF_iload_n 14 dX12_shown_13 rfl rfl ?_
    refine zF_callSi 17 (d2 := (d + 11)) (as := [zI b]) dX12_shown_14 rfl kX12_268 sX12_isDay (Nat.le_refl _) rfl rfl (Nat.le_of_ble_eq_true rfl) (zt_X12_isDay (by first | decide | assumption | exact hb _ | exact mSh_rg hb _ _ | exact zb_rg _ | (constructor <;> omega))) ?_
    refine zF_ifb_eq 24 20 dX12_shown_17 rfl rfl (fun c2 => ?_) (fun c2 => ?_)
    · refine zF_iconst 25 dX12_shown_24 rfl ?_
      refine zF_putI 28 dX12_shown_25 rfl pX12_shown_89 (Or.inl rfl) hM.1 hM.2.1 ?_
      refine zF_aload_n 29 dX12_shown_28 rfl rfl ?_
      refine zF_getI 32 dX12_shown_29 rfl gX12_89 (by decide) (by decide) hM.1 hM.2.1 (zsi_same _ _ _ _) ?_
      refine zF_if_ne 44 35 dX12_shown_32 rfl rfl (by first | decide | assumption | exact hb _ | exact mSh_rg hb _ _ | exact zb_rg _ | (constructor <;> omega)) (fun c3 => ?_) (fun c3 => ?_)
      · refine zF_iconst 45 dX12_shown_44 rfl ?_
        exact zF_ireturn dX12_shown_45 rfl (mopT (mSc_hm5 zFr.rf) (zsi_same _ _ _ _) (by repeat (first | rw [if_pos (by omega)] | rw [if_neg (by omega)])) (by decide))
      · exact absurd c3 (by decide)
    · refine zF_iconst 21 dX12_shown_20 rfl ?_
      refine zF_goto 25 dX12_shown_21 rfl ?_
      refine zF_putI 28 dX12_shown_25 rfl pX12_shown_89 (Or.inl rfl) hM.1 hM.2.1 ?_
      refine zF_aload_n 29 dX12_shown_28 rfl rfl ?_
      refine zF_getI 32 dX12_shown_29 rfl gX12_89 (by decide) (by decide) hM.1 hM.2.1 (zsi_same _ _ _ _) ?_
      refine zF_if_ne 44 35 dX12_shown_32 rfl rfl (by first | decide | assumption | exact hb _ | exact mSh_rg hb _ _ | exact zb_rg _ | (constructor <;> omega)) (fun c4 => ?_) (fun c4 => ?_)
      · exact absurd c4 (by decide)
      · refine zF_aload_n 36 dX12_shown_35 rfl rfl ?_
        refine zF_iload_n 37 dX12_shown_36 rfl rfl ?_
        refine zF_iload_n 38 dX12_shown_37 rfl rfl ?_
        refine zF_callVi 41 (d2 := (d + 11)) (as := [zI s, zI b]) dX12_shown_38 rfl kX12_129 iX12_shownOn (ci := 12) rfl eX12_shownOn (Nat.le_refl _) hM.1 hM.2.1 rfl rfl (Nat.le_of_ble_eq_true rfl) (zn_X12_shownOn hM (zMo_hN (k := 0) hN hM (by decide) zMo_h1) hb (by omega) (by omega) (by first | decide | assumption | exact hb _ | exact mSh_rg hb _ _ | exact zb_rg _ | (constructor <;> omega))) ?_
        refine zF_goto 45 dX12_shown_41 rfl ?_
        exact zF_ireturn dX12_shown_45 rfl (mopR (mSc_hm5 zFr.rf) (zsi_same _ _ _ _) (by repeat (first | rw [if_pos (by omega)] | rw [if_neg (by omega)])) (rfl))
  · refine zF_iconst 10 dX12_shown_9 rfl ?_
    refine zF_goto 25 dX12_shown_10 rfl ?_
    refine zF_putI 28 dX12_shown_25 rfl pX12_shown_89 (Or.inl rfl) hM.1 hM.2.1 ?_
    refine zF_aload_n 29 dX12_shown_28 rfl rfl ?_
    refine zF_getI 32 dX12_shown_29 rfl gX12_89 (by decide) (by decide) hM.1 hM.2.1 (zsi_same _ _ _ _) ?_
    refine zF_if_ne 44 35 dX12_shown_32 rfl rfl (by first | decide | assumption | exact hb _ | exact mSh_rg hb _ _ | exact zb_rg _ | (constructor <;> omega)) (fun c5 => ?_) (fun c5 => ?_)
    · refine zF_iconst 45 dX12_shown_44 rfl ?_
      exact zF_ireturn dX12_shown_45 rfl (mopT (mSc_hm5 zFr.rf) (zsi_same _ _ _ _) (by repeat (first | rw [if_pos (by omega)] | rw [if_neg (by omega)])) (by decide))
    · exact absurd c5 (by decide)
theorem zt_X12_visitors {s b : Int} (hM : zMo σ hm A) (hN : zia σ (A 0) = N) (hV : mV N) (hW : mW N) (zrs : zrg s) (zrb : zrg b) : zE G mX12_visitors (d + 12) [zR hm, zI s, zI b] σ (mop (if 0 ≤ s ∧ s < N 1 then if 0 ≤ b ∧ b < 7 then 0 else 2 else 1) (gv N s b) hm A σ) := by
  refine zE_of rfl (by simp [zcat]) (Nat.le_of_ble_eq_true rfl) ?_
  show zF G mX12_visitors (d + 12) 0 [(0, zR hm), (1, zI s), (2, zI b)] [] σ _
  have hb := hV.b
  have hn := hV.n
  refine zF_aload_n 1 dX12_visitors_0 rfl rfl ?_
  refine zF_aload_n 2 dX12_visitors_1 rfl rfl ?_
  refine zF_iload_n 3 dX12_visitors_2 rfl rfl ?_
  refine zF_callVi 6 (d2 := (d + 11)) (as := [zI s]) dX12_visitors_3 rfl kX12_256 iX12_isScreen (ci := 12) rfl eX12_isScreen (Nat.le_refl _) hM.1 hM.2.1 rfl rfl (Nat.le_of_ble_eq_true rfl) (zn_X12_isScreen hM hN (by first | decide | assumption | exact hb _ | exact mSh_rg hb _ _ | exact zb_rg _ | (constructor <;> omega)) (by omega) (by omega)) ?_
  refine zF_ifb_ne 13 9 dX12_visitors_6 rfl rfl (fun c1 => ?_) (fun c1 => ?_)
  · refine zF_iload_n 14 dX12_visitors_13 rfl rfl ?_
    refine zF_callSi 17 (d2 := (d + 11)) (as := [zI b]) dX12_visitors_14 rfl kX12_268 sX12_isDay (Nat.le_refl _) rfl rfl (Nat.le_of_ble_eq_true rfl) (zt_X12_isDay (by first | decide | assumption | exact hb _ | exact mSh_rg hb _ _ | exact zb_rg _ | (constructor <;> omega))) ?_
    refine zF_ifb_eq 24 20 dX12_visitors_17 rfl rfl (fun c2 => ?_) (fun c2 => ?_)
    · refine zF_iconst 25 dX12_visitors_24 rfl ?_
      refine zF_putI 28 dX12_visitors_25 rfl pX12_visitors_89 (Or.inl rfl) hM.1 hM.2.1 ?_
      refine zF_aload_n 29 dX12_visitors_28 rfl rfl ?_
      refine zF_callV 32 (d2 := (d + 11)) (as := []) dX12_visitors_29 rfl kX12_244 iX12_layWeek (ci := 12) rfl eX12_layWeek (Nat.le_refl _) hM.1 hM.2.1 rfl rfl (Nat.le_of_ble_eq_true rfl) (zE.mono (zt_X12_layWeek hM (zMo_hN (k := 0) hN hM (by decide) zMo_h1) hV hW) fun ro σa1 hh1 => ?_)
      obtain ⟨er1, fr1, p1⟩ := hh1
      subst er1
      refine ⟨fr1.1, ?_⟩
      show zF G mX12_visitors (d + 12) 32 [(0, zR hm), (1, zI s), (2, zI b)] [] σa1 _
      have hMa1 := zMo_f2 fr1 hM
      have hNa1 : zia σa1 (A 0) = N := zFr_N (σ := (zsi σ hm ((5 : Nat) : Int) 2)) hM (zMo_hN (k := 0) hN hM (by decide) zMo_h1) fr1
      have hga1 := gOK_V hV p1
      refine zF_aload_n 33 dX12_visitors_32 rfl rfl ?_
      refine zF_getI 36 dX12_visitors_33 rfl gX12_89 (by decide) (by decide) hMa1.1 hMa1.2.1 (zFr_F fr1 (n78 hM (j := 0)) (zsi_same _ _ _ _)) ?_
      refine zF_if_ne 53 39 dX12_visitors_36 rfl rfl (by first | decide | assumption | exact hb _ | exact mSh_rg hb _ _ | exact zb_rg _ | (constructor <;> omega)) (fun c3 => ?_) (fun c3 => ?_)
      · refine zF_iconst 54 dX12_visitors_53 rfl ?_
        exact zF_ireturn dX12_visitors_54 rfl (mopT (mSc_fr78 (mSc_hm5 zFr.rf) fr1) (zFr_F fr1 (n78 hM (j := 0)) (zsi_same _ _ _ _)) (by repeat (first | rw [if_pos (by omega)] | rw [if_neg (by omega)])) (by decide))
      · exact absurd c3 (by decide)
    · refine zF_iconst 21 dX12_visitors_20 rfl ?_
      refine zF_goto 25 dX12_visitors_21 rfl ?_
      refine zF_putI 28 dX12_visitors_25 rfl pX12_visitors_89 (Or.inl rfl) hM.1 hM.2.1 ?_
      refine zF_aload_n 29 dX12_visitors_28 rfl rfl ?_
      refine zF_callV 32 (d2 := (d + 11)) (as := []) dX12_visitors_29 rfl kX12_244 iX12_layWeek (ci := 12) rfl eX12_layWeek (Nat.le_refl _) hM.1 hM.2.1 rfl rfl (Nat.le_of_ble_eq_true rfl) (zE.mono (zt_X12_layWeek hM (zMo_hN (k := 0) hN hM (by decide) zMo_h1) hV hW) fun ro σa2 hh2 => ?_)
      obtain ⟨er2, fr2, p2⟩ := hh2
      subst er2
      refine ⟨fr2.1, ?_⟩
      show zF G mX12_visitors (d + 12) 32 [(0, zR hm), (1, zI s), (2, zI b)] [] σa2 _
      have hMa2 := zMo_f2 fr2 hM
      have hNa2 : zia σa2 (A 0) = N := zFr_N (σ := (zsi σ hm ((5 : Nat) : Int) 0)) hM (zMo_hN (k := 0) hN hM (by decide) zMo_h1) fr2
      have hga2 := gOK_V hV p2
      refine zF_aload_n 33 dX12_visitors_32 rfl rfl ?_
      refine zF_getI 36 dX12_visitors_33 rfl gX12_89 (by decide) (by decide) hMa2.1 hMa2.2.1 (zFr_F fr2 (n78 hM (j := 0)) (zsi_same _ _ _ _)) ?_
      refine zF_if_ne 53 39 dX12_visitors_36 rfl rfl (by first | decide | assumption | exact hb _ | exact mSh_rg hb _ _ | exact zb_rg _ | (constructor <;> omega)) (fun c4 => ?_) (fun c4 => ?_)
      · exact absurd c4 (by decide)
      · refine zF_aload_n 40 dX12_visitors_39 rfl rfl ?_
        refine zF_getR 43 dX12_visitors_40 rfl gX12_22 hMa2.1 hMa2.2.1 (zM_7 hMa2).1 ?_
        refine zF_bipush 45 dX12_visitors_43 rfl (by decide) ?_
        refine zF_iload_n 46 dX12_visitors_45 rfl rfl ?_
        refine zF_imul 47 dX12_visitors_46 rfl ?_
        refine zF_iload_n 48 dX12_visitors_47 rfl rfl ?_
        refine zF_iadd 49 dX12_visitors_48 rfl ?_
        refine zF_iaload 50 dX12_visitors_49 rfl (zM_7 hMa2).2.2 (zM_7 hMa2).2.1 (by omega) (by omega) rfl ?_
        refine zF_goto 54 dX12_visitors_50 rfl ?_
        exact zF_ireturn dX12_visitors_54 rfl (mopR (mSc_fr78 (mSc_hm5 zFr.rf) fr2) (zFr_F fr2 (n78 hM (j := 0)) (zsi_same _ _ _ _)) (by repeat (first | rw [if_pos (by omega)] | rw [if_neg (by omega)])) (p2 s b (by omega) (by omega) (by omega) (by omega)))
  · refine zF_iconst 10 dX12_visitors_9 rfl ?_
    refine zF_goto 25 dX12_visitors_10 rfl ?_
    refine zF_putI 28 dX12_visitors_25 rfl pX12_visitors_89 (Or.inl rfl) hM.1 hM.2.1 ?_
    refine zF_aload_n 29 dX12_visitors_28 rfl rfl ?_
    refine zF_callV 32 (d2 := (d + 11)) (as := []) dX12_visitors_29 rfl kX12_244 iX12_layWeek (ci := 12) rfl eX12_layWeek (Nat.le_refl _) hM.1 hM.2.1 rfl rfl (Nat.le_of_ble_eq_true rfl) (zE.mono (zt_X12_layWeek hM (zMo_hN (k := 0) hN hM (by decide) zMo_h1) hV hW) fun ro σa3 hh3 => ?_)
    obtain ⟨er3, fr3, p3⟩ := hh3
    subst er3
    refine ⟨fr3.1, ?_⟩
    show zF G mX12_visitors (d + 12) 32 [(0, zR hm), (1, zI s), (2, zI b)] [] σa3 _
    have hMa3 := zMo_f2 fr3 hM
    have hNa3 : zia σa3 (A 0) = N := zFr_N (σ := (zsi σ hm ((5 : Nat) : Int) 1)) hM (zMo_hN (k := 0) hN hM (by decide) zMo_h1) fr3
    have hga3 := gOK_V hV p3
    refine zF_aload_n 33 dX12_visitors_32 rfl rfl ?_
    refine zF_getI 36 dX12_visitors_33 rfl gX12_89 (by decide) (by decide) hMa3.1 hMa3.2.1 (zFr_F fr3 (n78 hM (j := 0)) (zsi_same _ _ _ _)) ?_
    refine zF_if_ne 53 39 dX12_visitors_36 rfl rfl (by first | decide | assumption | exact hb _ | exact mSh_rg hb _ _ | exact zb_rg _ | (constructor <;> omega)) (fun c5 => ?_) (fun c5 => ?_)
    · refine zF_iconst 54 dX12_visitors_53 rfl ?_
      exact zF_ireturn dX12_visitors_54 rfl (mopT (mSc_fr78 (mSc_hm5 zFr.rf) fr3) (zFr_F fr3 (n78 hM (j := 0)) (zsi_same _ _ _ _)) (by repeat (first | rw [if_pos (by omega)] | rw [if_neg (by omega)])) (by decide))
    · exact absurd c5 (by decide)
theorem zt_X12_share {h f : Int} (hM : zMo σ hm A) (hN : zia σ (A 0) = N) (hV : mV N) (hW : mW N) (zrh : zrg h) (zrf : zrg f) : zE G mX12_share (d + 12) [zR hm, zI h, zI f] σ (mop (if 0 ≤ h ∧ h < N 0 then if 0 ≤ f ∧ f < N 2 then 0 else 1 else 1) (mShare N h f (cFi N h f)) hm A σ) := by
  refine zE_of rfl (by simp [zcat]) (Nat.le_of_ble_eq_true rfl) ?_
  show zF G mX12_share (d + 12) 0 [(0, zR hm), (1, zI h), (2, zI f)] [] σ _
  have hb := hV.b
  have hn := hV.n
  refine zF_aload_n 1 dX12_share_0 rfl rfl ?_
  refine zF_iconst 2 dX12_share_1 rfl ?_
  refine zF_putI 5 dX12_share_2 rfl pX12_share_89 (Or.inl rfl) hM.1 hM.2.1 ?_
  refine zF_aload_n 6 dX12_share_5 rfl rfl ?_
  refine zF_iload_n 7 dX12_share_6 rfl rfl ?_
  refine zF_callVi 10 (d2 := (d + 11)) (as := [zI h]) dX12_share_7 rfl kX12_241 iX12_isHouse (ci := 12) rfl eX12_isHouse (Nat.le_refl _) hM.1 hM.2.1 rfl rfl (Nat.le_of_ble_eq_true rfl) (zn_X12_isHouse hM (zMo_hN (k := 0) hN hM (by decide) zMo_h1) (by first | decide | assumption | exact hb _ | exact mSh_rg hb _ _ | exact zb_rg _ | (constructor <;> omega)) (by omega) (by omega)) ?_
  refine zF_ifb_eq 21 13 dX12_share_10 rfl rfl (fun c1 => ?_) (fun c1 => ?_)
  · refine zF_aload_n 22 dX12_share_21 rfl rfl ?_
    refine zF_iconst 23 dX12_share_22 rfl ?_
    refine zF_callV 26 (d2 := (d + 11)) (as := [zI 1]) dX12_share_23 rfl kX12_238 iX12_raise (ci := 12) rfl eX12_raise (Nat.le_refl _) hM.1 hM.2.1 rfl rfl (Nat.le_of_ble_eq_true rfl) (zE.mono (zt_X12_raise hM) fun ro σx1 hh1 => ?_)
    obtain ⟨er1, es1⟩ := hh1
    subst er1
    subst es1
    refine ⟨rfl, ?_⟩
    exact zF_ireturn dX12_share_26 rfl (mopT (mSc_hm5 (mSc_hm5 zFr.rf)) (zsi_same _ _ _ _) (by repeat (first | rw [if_pos (by omega)] | rw [if_neg (by omega)])) (by decide))
  · refine zF_aload_n 14 dX12_share_13 rfl rfl ?_
    refine zF_iload_n 15 dX12_share_14 rfl rfl ?_
    refine zF_callVi 18 (d2 := (d + 11)) (as := [zI f]) dX12_share_15 rfl kX12_262 iX12_isFilm (ci := 12) rfl eX12_isFilm (Nat.le_refl _) hM.1 hM.2.1 rfl rfl (Nat.le_of_ble_eq_true rfl) (zn_X12_isFilm hM (zMo_hN (k := 0) hN hM (by decide) zMo_h1) (by first | decide | assumption | exact hb _ | exact mSh_rg hb _ _ | exact zb_rg _ | (constructor <;> omega)) (by omega) (by omega)) ?_
    refine zF_ifb_ne 27 21 dX12_share_18 rfl rfl (fun c2 => ?_) (fun c2 => ?_)
    · refine zF_aload_n 28 dX12_share_27 rfl rfl ?_
      refine zF_callV 31 (d2 := (d + 11)) (as := []) dX12_share_28 rfl kX12_244 iX12_layWeek (ci := 12) rfl eX12_layWeek (Nat.le_refl _) hM.1 hM.2.1 rfl rfl (Nat.le_of_ble_eq_true rfl) (zE.mono (zt_X12_layWeek hM (zMo_hN (k := 0) hN hM (by decide) zMo_h1) hV hW) fun ro σa2 hh2 => ?_)
      obtain ⟨er2, fr2, p2⟩ := hh2
      subst er2
      refine ⟨fr2.1, ?_⟩
      show zF G mX12_share (d + 12) 31 [(0, zR hm), (1, zI h), (2, zI f)] [] σa2 _
      have hMa2 := zMo_f2 fr2 hM
      have hNa2 : zia σa2 (A 0) = N := zFr_N (σ := (zsi σ hm ((5 : Nat) : Int) 0)) hM (zMo_hN (k := 0) hN hM (by decide) zMo_h1) fr2
      have hga2 := gOK_V hV p2
      refine zF_aload_n 32 dX12_share_31 rfl rfl ?_
      refine zF_iload_n 33 dX12_share_32 rfl rfl ?_
      refine zF_iload_n 34 dX12_share_33 rfl rfl ?_
      refine zF_callVi 37 (d2 := (d + 11)) (as := [zI h, zI f]) dX12_share_34 rfl kX12_193 iX12_shareOf (ci := 12) rfl eX12_shareOf (Nat.le_refl _) hMa2.1 hMa2.2.1 rfl rfl (Nat.le_of_ble_eq_true rfl) (zn_X12_shareOf hMa2 hNa2 rfl hV hga2 (by omega) (by omega) (by omega) (by omega)) ?_
      exact zF_ireturn dX12_share_37 rfl (mopR (mSc_fr78 (mSc_hm5 zFr.rf) fr2) (zFr_F fr2 (n78 hM (j := 0)) (zsi_same _ _ _ _)) (by repeat (first | rw [if_pos (by omega)] | rw [if_neg (by omega)])) (gShare_eq hV p2 (by omega) (by omega) (by omega)))
    · refine zF_aload_n 22 dX12_share_21 rfl rfl ?_
      refine zF_iconst 23 dX12_share_22 rfl ?_
      refine zF_callV 26 (d2 := (d + 11)) (as := [zI 1]) dX12_share_23 rfl kX12_238 iX12_raise (ci := 12) rfl eX12_raise (Nat.le_refl _) hM.1 hM.2.1 rfl rfl (Nat.le_of_ble_eq_true rfl) (zE.mono (zt_X12_raise hM) fun ro σx3 hh3 => ?_)
      obtain ⟨er3, es3⟩ := hh3
      subst er3
      subst es3
      refine ⟨rfl, ?_⟩
      exact zF_ireturn dX12_share_26 rfl (mopT (mSc_hm5 (mSc_hm5 zFr.rf)) (zsi_same _ _ _ _) (by repeat (first | rw [if_pos (by omega)] | rw [if_neg (by omega)])) (by decide))
theorem zt_X12_run {h f : Int} (hM : zMo σ hm A) (hN : zia σ (A 0) = N) (hV : mV N) (zrh : zrg h) (zrf : zrg f) : zE G mX12_run (d + 12) [zR hm, zI h, zI f] σ (mop (if 0 ≤ h ∧ h < N 0 then if 0 ≤ f ∧ f < N 2 then 0 else 1 else 1) (mR N h f) hm A σ) := by
  refine zE_of rfl (by simp [zcat]) (Nat.le_of_ble_eq_true rfl) ?_
  show zF G mX12_run (d + 12) 0 [(0, zR hm), (1, zI h), (2, zI f)] [] σ _
  have hb := hV.b
  have hn := hV.n
  refine zF_aload_n 1 dX12_run_0 rfl rfl ?_
  refine zF_iconst 2 dX12_run_1 rfl ?_
  refine zF_putI 5 dX12_run_2 rfl pX12_run_89 (Or.inl rfl) hM.1 hM.2.1 ?_
  refine zF_aload_n 6 dX12_run_5 rfl rfl ?_
  refine zF_iload_n 7 dX12_run_6 rfl rfl ?_
  refine zF_callVi 10 (d2 := (d + 11)) (as := [zI h]) dX12_run_7 rfl kX12_241 iX12_isHouse (ci := 12) rfl eX12_isHouse (Nat.le_refl _) hM.1 hM.2.1 rfl rfl (Nat.le_of_ble_eq_true rfl) (zn_X12_isHouse hM (zMo_hN (k := 0) hN hM (by decide) zMo_h1) (by first | decide | assumption | exact hb _ | exact mSh_rg hb _ _ | exact zb_rg _ | (constructor <;> omega)) (by omega) (by omega)) ?_
  refine zF_ifb_eq 34 13 dX12_run_10 rfl rfl (fun c1 => ?_) (fun c1 => ?_)
  · refine zF_aload_n 35 dX12_run_34 rfl rfl ?_
    refine zF_iconst 36 dX12_run_35 rfl ?_
    refine zF_callV 39 (d2 := (d + 11)) (as := [zI 1]) dX12_run_36 rfl kX12_238 iX12_raise (ci := 12) rfl eX12_raise (Nat.le_refl _) hM.1 hM.2.1 rfl rfl (Nat.le_of_ble_eq_true rfl) (zE.mono (zt_X12_raise hM) fun ro σx1 hh1 => ?_)
    obtain ⟨er1, es1⟩ := hh1
    subst er1
    subst es1
    refine ⟨rfl, ?_⟩
    exact zF_ireturn dX12_run_39 rfl (mopT (mSc_hm5 (mSc_hm5 zFr.rf)) (zsi_same _ _ _ _) (by repeat (first | rw [if_pos (by omega)] | rw [if_neg (by omega)])) (by decide))
  · refine zF_aload_n 14 dX12_run_13 rfl rfl ?_
    refine zF_iload_n 15 dX12_run_14 rfl rfl ?_
    refine zF_callVi 18 (d2 := (d + 11)) (as := [zI f]) dX12_run_15 rfl kX12_262 iX12_isFilm (ci := 12) rfl eX12_isFilm (Nat.le_refl _) hM.1 hM.2.1 rfl rfl (Nat.le_of_ble_eq_true rfl) (zn_X12_isFilm hM (zMo_hN (k := 0) hN hM (by decide) zMo_h1) (by first | decide | assumption | exact hb _ | exact mSh_rg hb _ _ | exact zb_rg _ | (constructor <;> omega)) (by omega) (by omega)) ?_
    refine zF_ifb_eq 34 21 dX12_run_18 rfl rfl (fun c2 => ?_) (fun c2 => ?_)
    · refine zF_aload_n 35 dX12_run_34 rfl rfl ?_
      refine zF_iconst 36 dX12_run_35 rfl ?_
      refine zF_callV 39 (d2 := (d + 11)) (as := [zI 1]) dX12_run_36 rfl kX12_238 iX12_raise (ci := 12) rfl eX12_raise (Nat.le_refl _) hM.1 hM.2.1 rfl rfl (Nat.le_of_ble_eq_true rfl) (zE.mono (zt_X12_raise hM) fun ro σx2 hh2 => ?_)
      obtain ⟨er2, es2⟩ := hh2
      subst er2
      subst es2
      refine ⟨rfl, ?_⟩
      exact zF_ireturn dX12_run_39 rfl (mopT (mSc_hm5 (mSc_hm5 zFr.rf)) (zsi_same _ _ _ _) (by repeat (first | rw [if_pos (by omega)] | rw [if_neg (by omega)])) (by decide))
    · refine zF_aload_n 22 dX12_run_21 rfl rfl ?_
      refine zF_getR 25 dX12_run_22 rfl gX12_9 hM.1 hM.2.1 (zM_0 hM).1 ?_
      refine zF_iload_n 26 dX12_run_25 rfl rfl ?_
      refine zF_iload_n 27 dX12_run_26 rfl rfl ?_
      refine zF_callSi 30 (d2 := (d + 11)) (as := [zI h, zI f]) dX12_run_27 rfl kX12_180 sX12_runAt (Nat.le_refl _) rfl rfl (Nat.le_of_ble_eq_true rfl) (zt_X12_runAt) ?_
      refine zF_iaload 31 dX12_run_30 rfl (zM_0 hM).2.2 (zM_0 hM).2.1 (by omega) (by omega) (congrFun (zMo_hN (k := 0) hN hM (by decide) zMo_h1) _) ?_
      refine zF_goto 39 dX12_run_31 rfl ?_
      exact zF_ireturn dX12_run_39 rfl (mopR (mSc_hm5 zFr.rf) (zsi_same _ _ _ _) (by repeat (first | rw [if_pos (by omega)] | rw [if_neg (by omega)])) (rfl))
theorem zt_X12_total {w : Int} (hM : zMo σ hm A) (hN : zia σ (A 0) = N) (hV : mV N) (zrw : zrg w) : zE G mX12_total (d + 12) [zR hm, zI w] σ (mop (if 0 ≤ w ∧ w ≤ 4 then 0 else 1) (sTotal N w) hm A σ) := by
  refine zE_of rfl (by simp [zcat]) (Nat.le_of_ble_eq_true rfl) ?_
  show zF G mX12_total (d + 12) 0 [(0, zR hm), (1, zI w)] [] σ _
  have hb := hV.b
  have hn := hV.n
  refine zF_aload_n 1 dX12_total_0 rfl rfl ?_
  refine zF_iconst 2 dX12_total_1 rfl ?_
  refine zF_putI 5 dX12_total_2 rfl pX12_total_89 (Or.inl rfl) hM.1 hM.2.1 ?_
  refine zF_iload_n 6 dX12_total_5 rfl rfl ?_
  refine zF_iconst 7 dX12_total_6 rfl ?_
  refine zF_icmp_ne 46 10 dX12_total_7 rfl rfl (by first | decide | assumption | exact hb _ | exact mSh_rg hb _ _ | exact zb_rg _ | (constructor <;> omega)) (by first | decide | assumption | exact hb _ | exact mSh_rg hb _ _ | exact zb_rg _ | (constructor <;> omega)) (fun c1 => ?_) (fun c1 => ?_)
  · refine zF_iload_n 47 dX12_total_46 rfl rfl ?_
    refine zF_iconst 48 dX12_total_47 rfl ?_
    refine zF_iconst 49 dX12_total_48 rfl ?_
    refine zF_callSi 52 (d2 := (d + 11)) (as := [zI w, zI 0, zI 3]) dX12_total_49 rfl kX12_109 sX12_inRange (Nat.le_refl _) rfl rfl (Nat.le_of_ble_eq_true rfl) (zt_X12_inRange (by first | decide | assumption | exact hb _ | exact mSh_rg hb _ _ | exact zb_rg _ | (constructor <;> omega)) (by first | decide | assumption | exact hb _ | exact mSh_rg hb _ _ | exact zb_rg _ | (constructor <;> omega)) (by first | decide | assumption | exact hb _ | exact mSh_rg hb _ _ | exact zb_rg _ | (constructor <;> omega))) ?_
    refine zF_ifb_eq 68 55 dX12_total_52 rfl rfl (fun c2 => ?_) (fun c2 => ?_)
    · refine zF_aload_n 69 dX12_total_68 rfl rfl ?_
      refine zF_iconst 70 dX12_total_69 rfl ?_
      refine zF_callV 73 (d2 := (d + 11)) (as := [zI 1]) dX12_total_70 rfl kX12_238 iX12_raise (ci := 12) rfl eX12_raise (Nat.le_refl _) hM.1 hM.2.1 rfl rfl (Nat.le_of_ble_eq_true rfl) (zE.mono (zt_X12_raise hM) fun ro σx1 hh1 => ?_)
      obtain ⟨er1, es1⟩ := hh1
      subst er1
      subst es1
      refine ⟨rfl, ?_⟩
      exact zF_ireturn dX12_total_73 rfl (mopT (mSc_hm5 (mSc_hm5 zFr.rf)) (zsi_same _ _ _ _) (by repeat (first | rw [if_pos (by omega)] | rw [if_neg (by omega)])) (by decide))
    · refine zF_aload_n 56 dX12_total_55 rfl rfl ?_
      refine zF_getR 59 dX12_total_56 rfl gX12_9 hM.1 hM.2.1 (zM_0 hM).1 ?_
      refine zF_sipush 62 dX12_total_59 rfl (by decide) ?_
      refine zF_iload_n 63 dX12_total_62 rfl rfl ?_
      refine zF_iadd 64 dX12_total_63 rfl ?_
      refine zF_iaload 65 dX12_total_64 rfl (zM_0 hM).2.2 (zM_0 hM).2.1 (by omega) (by omega) (congrFun (zMo_hN (k := 0) hN hM (by decide) zMo_h1) _) ?_
      refine zF_goto 73 dX12_total_65 rfl ?_
      exact zF_ireturn dX12_total_73 rfl (mopR (mSc_hm5 zFr.rf) (zsi_same _ _ _ _) (by repeat (first | rw [if_pos (by omega)] | rw [if_neg (by omega)])) (by unfold sTotal; first | (rw [if_pos (by omega)]; first | done | rfl) | (rw [if_neg (by omega)]; first | done | rfl)))
  · refine zF_aload_n 11 dX12_total_10 rfl rfl ?_
    refine zF_getR 14 dX12_total_11 rfl gX12_9 hM.1 hM.2.1 (zM_0 hM).1 ?_
    refine zF_sipush 17 dX12_total_14 rfl (by decide) ?_
    refine zF_iaload 18 dX12_total_17 rfl (zM_0 hM).2.2 (zM_0 hM).2.1 (by omega) (by omega) (congrFun (zMo_hN (k := 0) hN hM (by decide) zMo_h1) _) ?_
    refine zF_aload_n 19 dX12_total_18 rfl rfl ?_
    refine zF_getR 22 dX12_total_19 rfl gX12_9 hM.1 hM.2.1 (zM_0 hM).1 ?_
    refine zF_sipush 25 dX12_total_22 rfl (by decide) ?_
    refine zF_iaload 26 dX12_total_25 rfl (zM_0 hM).2.2 (zM_0 hM).2.1 (by omega) (by omega) (congrFun (zMo_hN (k := 0) hN hM (by decide) zMo_h1) _) ?_
    refine zF_isub 27 dX12_total_26 rfl ?_
    refine zF_aload_n 28 dX12_total_27 rfl rfl ?_
    refine zF_getR 31 dX12_total_28 rfl gX12_9 hM.1 hM.2.1 (zM_0 hM).1 ?_
    refine zF_sipush 34 dX12_total_31 rfl (by decide) ?_
    refine zF_iaload 35 dX12_total_34 rfl (zM_0 hM).2.2 (zM_0 hM).2.1 (by omega) (by omega) (congrFun (zMo_hN (k := 0) hN hM (by decide) zMo_h1) _) ?_
    refine zF_isub 36 dX12_total_35 rfl ?_
    refine zF_aload_n 37 dX12_total_36 rfl rfl ?_
    refine zF_getR 40 dX12_total_37 rfl gX12_9 hM.1 hM.2.1 (zM_0 hM).1 ?_
    refine zF_sipush 43 dX12_total_40 rfl (by decide) ?_
    refine zF_iaload 44 dX12_total_43 rfl (zM_0 hM).2.2 (zM_0 hM).2.1 (by omega) (by omega) (congrFun (zMo_hN (k := 0) hN hM (by decide) zMo_h1) _) ?_
    refine zF_isub 45 dX12_total_44 rfl ?_
    exact zF_ireturn dX12_total_45 rfl (mopR (mSc_hm5 zFr.rf) (zsi_same _ _ _ _) (by repeat (first | rw [if_pos (by omega)] | rw [if_neg (by omega)])) (by unfold sTotal; first | (rw [if_pos (by omega)]; first | done | rfl) | (rw [if_neg (by omega)]; first | done | rfl)))
theorem zt_X12_closed {b w : Int} (hM : zMo σ hm A) (hN : zia σ (A 0) = N) (hV : mV N) (zrb : zrg b) (zrw : zrg w) : zE G mX12_closed (d + 12) [zR hm, zI b, zI w] σ (mop (if 0 ≤ b ∧ b < min 20 (N 3) then if 0 ≤ w ∧ w < 5 then 0 else 1 else 1) (N (212 + 5 * b + w)) hm A σ) := by
  refine zE_of rfl (by simp [zcat]) (Nat.le_of_ble_eq_true rfl) ?_
  show zF G mX12_closed (d + 12) 0 [(0, zR hm), (1, zI b), (2, zI w)] [] σ _
  have hb := hV.b
  have hn := hV.n
  refine zF_aload_n 1 dX12_closed_0 rfl rfl ?_
  refine zF_iconst 2 dX12_closed_1 rfl ?_
  refine zF_putI 5 dX12_closed_2 rfl pX12_closed_89 (Or.inl rfl) hM.1 hM.2.1 ?_
  refine zF_iload_n 6 dX12_closed_5 rfl rfl ?_
  refine zF_iconst 7 dX12_closed_6 rfl ?_
  refine zF_bipush 9 dX12_closed_7 rfl (by decide) ?_
  refine zF_aload_n 10 dX12_closed_9 rfl rfl ?_
  refine zF_getR 13 dX12_closed_10 rfl gX12_9 hM.1 hM.2.1 (zM_0 hM).1 ?_
  refine zF_iconst 14 dX12_closed_13 rfl ?_
  refine zF_iaload 15 dX12_closed_14 rfl (zM_0 hM).2.2 (zM_0 hM).2.1 (by omega) (by omega) (congrFun (zMo_hN (k := 0) hN hM (by decide) zMo_h1) _) ?_
  refine zF_min 18 dX12_closed_15 rfl kX12_164 (Nat.le_refl _) (by first | decide | assumption | exact hb _ | exact mSh_rg hb _ _ | exact zb_rg _ | (constructor <;> omega)) (by first | decide | assumption | exact hb _ | exact mSh_rg hb _ _ | exact zb_rg _ | (constructor <;> omega)) (Nat.le_of_ble_eq_true rfl) ?_
  refine zF_iconst 19 dX12_closed_18 rfl ?_
  refine zF_isub 20 dX12_closed_19 rfl ?_
  refine zF_callSi 23 (d2 := (d + 11)) (as := [zI b, zI 0, zI ((min 20 (N 3)) - 1)]) dX12_closed_20 rfl kX12_109 sX12_inRange (Nat.le_refl _) rfl rfl (Nat.le_of_ble_eq_true rfl) (zt_X12_inRange (by first | decide | assumption | exact hb _ | exact mSh_rg hb _ _ | exact zb_rg _ | (constructor <;> omega)) (by first | decide | assumption | exact hb _ | exact mSh_rg hb _ _ | exact zb_rg _ | (constructor <;> omega)) (by first | decide | assumption | exact hb _ | exact mSh_rg hb _ _ | exact zb_rg _ | (constructor <;> omega))) ?_
  refine zF_istore_n 24 (ls' := [(3, zI (zb (0 ≤ b ∧ b ≤ ((min 20 (N 3)) - 1)))), (0, zR hm), (1, zI b), (2, zI w)]) dX12_closed_23 rfl (by decide) rfl ?_
  refine zF_iload_n 25 dX12_closed_24 rfl rfl ?_
  refine zF_ifb_eq 54 28 dX12_closed_25 rfl rfl (fun c1 => ?_) (fun c1 => ?_)
  · refine zF_aload_n 55 dX12_closed_54 rfl rfl ?_
    refine zF_iconst 56 dX12_closed_55 rfl ?_
    refine zF_callV 59 (d2 := (d + 11)) (as := [zI 1]) dX12_closed_56 rfl kX12_238 iX12_raise (ci := 12) rfl eX12_raise (Nat.le_refl _) hM.1 hM.2.1 rfl rfl (Nat.le_of_ble_eq_true rfl) (zE.mono (zt_X12_raise hM) fun ro σx1 hh1 => ?_)
    obtain ⟨er1, es1⟩ := hh1
    subst er1
    subst es1
    refine ⟨rfl, ?_⟩
    exact zF_ireturn dX12_closed_59 rfl (mopT (mSc_hm5 (mSc_hm5 zFr.rf)) (zsi_same _ _ _ _) (by repeat (first | rw [if_pos (by omega)] | rw [if_neg (by omega)])) (by decide))
  · refine zF_iload_n 29 dX12_closed_28 rfl rfl ?_
    refine zF_iconst 30 dX12_closed_29 rfl ?_
    refine zF_iconst 31 dX12_closed_30 rfl ?_
    refine zF_callSi 34 (d2 := (d + 11)) (as := [zI w, zI 0, zI 4]) dX12_closed_31 rfl kX12_109 sX12_inRange (Nat.le_refl _) rfl rfl (Nat.le_of_ble_eq_true rfl) (zt_X12_inRange (by first | decide | assumption | exact hb _ | exact mSh_rg hb _ _ | exact zb_rg _ | (constructor <;> omega)) (by first | decide | assumption | exact hb _ | exact mSh_rg hb _ _ | exact zb_rg _ | (constructor <;> omega)) (by first | decide | assumption | exact hb _ | exact mSh_rg hb _ _ | exact zb_rg _ | (constructor <;> omega))) ?_
    refine zF_ifb_eq 54 37 dX12_closed_34 rfl rfl (fun c2 => ?_) (fun c2 => ?_)
    · refine zF_aload_n 55 dX12_closed_54 rfl rfl ?_
      refine zF_iconst 56 dX12_closed_55 rfl ?_
      refine zF_callV 59 (d2 := (d + 11)) (as := [zI 1]) dX12_closed_56 rfl kX12_238 iX12_raise (ci := 12) rfl eX12_raise (Nat.le_refl _) hM.1 hM.2.1 rfl rfl (Nat.le_of_ble_eq_true rfl) (zE.mono (zt_X12_raise hM) fun ro σx2 hh2 => ?_)
      obtain ⟨er2, es2⟩ := hh2
      subst er2
      subst es2
      refine ⟨rfl, ?_⟩
      exact zF_ireturn dX12_closed_59 rfl (mopT (mSc_hm5 (mSc_hm5 zFr.rf)) (zsi_same _ _ _ _) (by repeat (first | rw [if_pos (by omega)] | rw [if_neg (by omega)])) (by decide))
    · refine zF_aload_n 38 dX12_closed_37 rfl rfl ?_
      refine zF_getR 41 dX12_closed_38 rfl gX12_9 hM.1 hM.2.1 (zM_0 hM).1 ?_
      refine zF_sipush 44 dX12_closed_41 rfl (by decide) ?_
      refine zF_iconst 45 dX12_closed_44 rfl ?_
      refine zF_iload_n 46 dX12_closed_45 rfl rfl ?_
      refine zF_imul 47 dX12_closed_46 rfl ?_
      refine zF_iadd 48 dX12_closed_47 rfl ?_
      refine zF_iload_n 49 dX12_closed_48 rfl rfl ?_
      refine zF_iadd 50 dX12_closed_49 rfl ?_
      refine zF_iaload 51 dX12_closed_50 rfl (zM_0 hM).2.2 (zM_0 hM).2.1 (by omega) (by omega) (congrFun (zMo_hN (k := 0) hN hM (by decide) zMo_h1) _) ?_
      refine zF_goto 59 dX12_closed_51 rfl ?_
      exact zF_ireturn dX12_closed_59 rfl (mopR (mSc_hm5 zFr.rf) (zsi_same _ _ _ _) (by repeat (first | rw [if_pos (by omega)] | rw [if_neg (by omega)])) (rfl))
end ZQ

/-! the law's own chain: what is held, what a choice gains -/
section ZE2
variable {G : zG} {M : zMeth} {d pc : Nat} {ls : List (Nat × zV)} {st : List zV} {σ : zMem} {Q : zRes → zMem → Prop} {E : Nat → Nat} {N : Int → Int}
/-- nothing old has changed, more may be there -/
def zGw (n : Nat) (σ σ1 : zMem) : Prop := zn σ ≤ zn σ1 ∧ ∀ x, x < n → zkd σ1 x = zkd σ x ∧ ∀ j, zra σ1 x j = zra σ x j ∧ zia σ1 x j = zia σ x j
theorem zGw.rf {n : Nat} : zGw n σ σ := ⟨Nat.le_refl _, fun x _ => ⟨rfl, fun j => ⟨rfl, rfl⟩⟩⟩
theorem zGw.tr {n : Nat} {σ1 σ2 : zMem} (h : zGw n σ σ1) (k : zGw n σ1 σ2) : zGw n σ σ2 := ⟨Nat.le_trans h.1 k.1, fun x hx => ⟨(k.2 x hx).1.trans (h.2 x hx).1, fun j => ⟨((k.2 x hx).2 j).1.trans ((h.2 x hx).2 j).1, ((k.2 x hx).2 j).2.trans ((h.2 x hx).2 j).2⟩⟩⟩
theorem zGw.wk {n m : Nat} {σ1 : zMem} (h : zGw n σ σ1) (hm : m ≤ n) : zGw m σ σ1 := ⟨h.1, fun x hx => h.2 x (Nat.lt_of_lt_of_le hx hm)⟩
theorem zGw_nw {n k c sz : Nat} {σ1 : zMem} (h : zGw n σ σ1) (hn : n ≤ zn σ1) : zGw n σ (znw σ1 k c sz) := h.tr ⟨by rw [zn_nw]; omega, fun x hx => ⟨by rw [zkd_nw, if_neg (by omega)], fun j => ⟨by rw [zra_nw, if_neg (by omega)], by rw [zia_nw, if_neg (by omega)]⟩⟩⟩
theorem zGw_si {n h : Nat} {j v : Int} {σ1 : zMem} (g : zGw n σ σ1) (hn : n ≤ h) : zGw n σ (zsi σ1 h j v) := g.tr ⟨Nat.le_refl _, fun x hx => ⟨rfl, fun j => ⟨rfl, by rw [zia_si, if_neg (by omega)]⟩⟩⟩
theorem eO.gw {σ1 : zMem} (hV : mV N) (h : eO N σ E) (g : zGw (zn σ) σ σ1) : eO N σ1 E := by
  have hvn := hV.n
  have kd : ∀ {x : Nat} {v : Nat × Nat}, x < zn σ → zkd σ x = v → zkd σ1 x = v := fun q e => (g.2 _ q).1.trans e
  have ra : ∀ {x : Nat} {j : Int} {v : Option Nat}, x < zn σ → zra σ x j = v → zra σ1 x j = v := fun q e => ((g.2 _ q).2 _).1.trans e
  have ia : ∀ {x : Nat} {j : Int} {v : Int}, x < zn σ → zia σ x j = v → zia σ1 x j = v := fun q e => ((g.2 _ q).2 _).2.trans e
  have lt : ∀ {x : Nat}, x < zn σ → x < zn σ1 := fun q => Nat.lt_of_lt_of_le q g.1
  refine ⟨⟨⟨kd h.l0 h.k0, lt h.l0, fun k t n q => ?_⟩, fun i a b => ?_, fun i a b => ?_, fun i a b => ?_, fun i a b => ?_, fun i a b => ?_, h.inj⟩, ⟨ia h.l0 h.i0, ia h.l0 h.i1, ia h.l0 h.i2, ia h.l0 h.i3, ia h.l0 h.i4, ia h.l0 h.i5⟩, fun x k a b c e => ia (h.r6 x a b).2.1 (h.c6 x k a b c e), fun x k a b c e => ia (h.r7 x a b).2.1 (h.c7 x k a b c e), fun x k a b c => ia (h.r8 x a b).2.1 (h.c8q x k a b c), fun x k a b c e => ?_, fun x k a b c e => ?_, fun k a b => ia (h.f 11 1 4 (by decide)).2.1 (h.c11 k a b)⟩
  · have f := h.f k t n q; exact ⟨ra h.l0 f.1, lt f.2.1, kd f.2.1 f.2.2⟩
  · have f := h.r6 i a b; have q := (h.f 6 6 4 (by decide)).2.1; exact ⟨ra q f.1, lt f.2.1, kd f.2.1 f.2.2⟩
  · have f := h.r7 i a b; have q := (h.f 7 6 10 (by decide)).2.1; exact ⟨ra q f.1, lt f.2.1, kd f.2.1 f.2.2⟩
  · have f := h.r8 i a b; have q := (h.f 8 6 6 (by decide)).2.1; exact ⟨ra q f.1, lt f.2.1, kd f.2.1 f.2.2⟩
  · have f := h.r9 i a b; have q := (h.f 9 6 6 (by decide)).2.1; exact ⟨ra q f.1, lt f.2.1, kd f.2.1 f.2.2⟩
  · have f := h.r10 i a b; have q := (h.f 10 6 4 (by decide)).2.1; exact ⟨ra q f.1, lt f.2.1, kd f.2.1 f.2.2⟩
  · exact ia (h.r9 x a (by omega)).2.1 (h.c9 x k a b c e)
  · exact ia (h.r10 x a (by omega)).2.1 (h.c10 x k a b c e)
theorem zt_X12_holds {s : Int} {gg : Int → Int} (hE : eO N σ E) (hV : mV N) (hW : mW N) (hg : gOK N gg) (s0 : 0 ≤ s) (s1 : s < N 1) : zP1 G mX12_holds (d + 4) [zR (E 0), zI s] σ (zb (mHoldM N gg s)) := by
  refine zE_of rfl (by simp [zcat]) (Nat.le_of_ble_eq_true rfl) ?_
  show zF G mX12_holds (d + 4) 0 [(0, zR (E 0)), (1, zI s)] [] σ _
  have hb := hV.b
  have hn := hV.n
  have hs := hV.s s s0 (by omega)
  have hw := hW s s0 s1
  have hh := hV.h (mS N s 0) (by omega) (by omega)
  have hp := mPrice_b hV s0 (by omega : s < 10)
  have hc := mCap_b hV s0 (by omega : s < 10)
  have hsh := mSh_w hV hW s0 s1 6
  refine zF_aload_n 1 dX12_holds_0 rfl rfl ?_
  refine zF_iload_n 2 dX12_holds_1 rfl rfl ?_
  refine zF_bipush 4 dX12_holds_2 rfl (by decide) ?_
  refine zF_callVi 7 (d2 := (d + 3)) (as := [zI s, zI 6]) dX12_holds_4 rfl kX12_62 iX12_shown (ci := 12) rfl eX12_shown (Nat.le_refl _) hE.k0 hE.l0 rfl rfl (Nat.le_of_ble_eq_true rfl) (zt_X12_shown hE hV (by omega) (by omega) (by first | decide | assumption | exact hb _ | exact mSh_rg hb _ _ | exact zb_rg _ | (constructor <;> omega))) ?_
  refine zF_istore_n 8 (ls' := [(2, zI (mSh N s 6)), (0, zR (E 0)), (1, zI s)]) dX12_holds_7 rfl (by decide) rfl ?_
  refine zF_iload_n 9 dX12_holds_8 rfl rfl ?_
  refine zF_if_ge 14 12 dX12_holds_9 rfl rfl (by first | decide | assumption | exact hb _ | exact mSh_rg hb _ _ | exact zb_rg _ | (constructor <;> omega)) (fun c1 => ?_) (fun c1 => ?_)
  · refine zF_iconst 15 dX12_holds_14 rfl ?_
    refine zF_istore_n 16 (ls' := [(3, zI 0), (2, zI (mSh N s 6)), (0, zR (E 0)), (1, zI s)]) dX12_holds_15 rfl (by decide) rfl ?_
    refine zF_iconst 17 dX12_holds_16 rfl ?_
    refine zF_istore 19 (ls' := [(4, zI 0), (3, zI 0), (2, zI (mSh N s 6)), (0, zR (E 0)), (1, zI s)]) dX12_holds_17 rfl (by decide) rfl ?_
    refine zF_locs (ls' := (fun (i : Nat) => [(4, zI (i : Int)), (3, zI (mDaysN N s (mSh N s 6) i)), (2, zI (mSh N s 6)), (0, zR (E 0)), (1, zI s)]) 0) ⟨zlI rfl (by first | rfl | omega | (push_cast; omega) | exact congrArg (_ + ·) (zbT (by assumption)) | exact congrArg (_ + ·) (zbF (by assumption)) | exact congrArg (_ + ·) (zbT (by omega)) | exact congrArg (_ + ·) (zbF (by omega)) | exact congrArg (_ + ·) (if_pos (by omega)).symm | exact congrArg (_ + ·) (if_neg (by omega)).symm | exact (if_pos (by omega)).symm | exact (if_neg (by omega)).symm | exact zsub_s (if_pos (by omega)).symm | exact zsub_s0 (if_neg (by omega)).symm | exact zadd0 (if_neg (by omega)).symm | exact zadd0 (zbF (by omega)) | exact (Int.sub_zero _).symm), zlI rfl (by first | rfl | omega | (push_cast; omega) | exact congrArg (_ + ·) (zbT (by assumption)) | exact congrArg (_ + ·) (zbF (by assumption)) | exact congrArg (_ + ·) (zbT (by omega)) | exact congrArg (_ + ·) (zbF (by omega)) | exact congrArg (_ + ·) (if_pos (by omega)).symm | exact congrArg (_ + ·) (if_neg (by omega)).symm | exact (if_pos (by omega)).symm | exact (if_neg (by omega)).symm | exact zsub_s (if_pos (by omega)).symm | exact zsub_s0 (if_neg (by omega)).symm | exact zadd0 (if_neg (by omega)).symm | exact zadd0 (zbF (by omega)) | exact (Int.sub_zero _).symm), rfl, rfl, rfl, trivial⟩ ?_
    refine zF_loop (n := 7) (fun (i : Nat) => [(4, zI (i : Int)), (3, zI (mDaysN N s (mSh N s 6) i)), (2, zI (mSh N s 6)), (0, zR (E 0)), (1, zI s)]) (fun _ => σ) (fun i hi ih19 => ?_) ?_
    · show zF G mX12_holds (d + 4) 19 [(4, zI (i : Int)), (3, zI (mDaysN N s (mSh N s 6) i)), (2, zI (mSh N s 6)), (0, zR (E 0)), (1, zI s)] [] σ _
      refine zF_iload 21 dX12_holds_19 rfl rfl ?_
      refine zF_bipush 23 dX12_holds_21 rfl (by decide) ?_
      refine zF_icmp_ge 51 26 dX12_holds_23 rfl rfl (by first | decide | assumption | exact hb _ | exact mSh_rg hb _ _ | exact zb_rg _ | (constructor <;> omega)) (by first | decide | assumption | exact hb _ | exact mSh_rg hb _ _ | exact zb_rg _ | (constructor <;> omega)) (fun c2 => ?_) (fun c2 => ?_)
      · exact absurd c2 (by omega)
      · refine zF_iload_n 27 dX12_holds_26 rfl rfl ?_
        refine zF_aload_n 28 dX12_holds_27 rfl rfl ?_
        refine zF_iload_n 29 dX12_holds_28 rfl rfl ?_
        refine zF_iload 31 dX12_holds_29 rfl rfl ?_
        refine zF_callVi 34 (d2 := (d + 3)) (as := [zI s, zI (i : Int)]) dX12_holds_31 rfl kX12_62 iX12_shown (ci := 12) rfl eX12_shown (Nat.le_refl _) hE.k0 hE.l0 rfl rfl (Nat.le_of_ble_eq_true rfl) (zt_X12_shown hE hV (by omega) (by omega) (by first | decide | assumption | exact hb _ | exact mSh_rg hb _ _ | exact zb_rg _ | (constructor <;> omega))) ?_
        refine zF_iload_n 35 dX12_holds_34 rfl rfl ?_
        refine zF_icmp_ne 42 38 dX12_holds_35 rfl rfl (by first | decide | assumption | exact hb _ | exact mSh_rg hb _ _ | exact zb_rg _ | (constructor <;> omega)) (by first | decide | assumption | exact hb _ | exact mSh_rg hb _ _ | exact zb_rg _ | (constructor <;> omega)) (fun c3 => ?_) (fun c3 => ?_)
        · refine zF_iconst 43 dX12_holds_42 rfl ?_
          refine zF_iadd 44 dX12_holds_43 rfl ?_
          refine zF_istore_n 45 (ls' := [(3, zI ((mDaysN N s (mSh N s 6) i) + 0)), (4, zI (i : Int)), (2, zI (mSh N s 6)), (0, zR (E 0)), (1, zI s)]) dX12_holds_44 rfl (by decide) rfl ?_
          refine zF_iinc 48 (ls' := [(4, zI ((i : Int) + 1)), (3, zI ((mDaysN N s (mSh N s 6) i) + 0)), (2, zI (mSh N s 6)), (0, zR (E 0)), (1, zI s)]) dX12_holds_45 rfl rfl rfl (by decide) rfl ?_
          refine zF_goto 19 dX12_holds_48 rfl ?_
          exact zF_locs (ls' := [(4, zI ((i + 1 : Nat) : Int)), (3, zI (mDaysN N s (mSh N s 6) (i + 1))), (2, zI (mSh N s 6)), (0, zR (E 0)), (1, zI s)]) ⟨zlI rfl (by first | rfl | omega | (push_cast; omega) | exact congrArg (_ + ·) (zbT (by assumption)) | exact congrArg (_ + ·) (zbF (by assumption)) | exact congrArg (_ + ·) (zbT (by omega)) | exact congrArg (_ + ·) (zbF (by omega)) | exact congrArg (_ + ·) (if_pos (by omega)).symm | exact congrArg (_ + ·) (if_neg (by omega)).symm | exact (if_pos (by omega)).symm | exact (if_neg (by omega)).symm | exact zsub_s (if_pos (by omega)).symm | exact zsub_s0 (if_neg (by omega)).symm | exact zadd0 (if_neg (by omega)).symm | exact zadd0 (zbF (by omega)) | exact (Int.sub_zero _).symm), zlI rfl (by first | rfl | omega | (push_cast; omega) | exact congrArg (_ + ·) (zbT (by assumption)) | exact congrArg (_ + ·) (zbF (by assumption)) | exact congrArg (_ + ·) (zbT (by omega)) | exact congrArg (_ + ·) (zbF (by omega)) | exact congrArg (_ + ·) (if_pos (by omega)).symm | exact congrArg (_ + ·) (if_neg (by omega)).symm | exact (if_pos (by omega)).symm | exact (if_neg (by omega)).symm | exact zsub_s (if_pos (by omega)).symm | exact zsub_s0 (if_neg (by omega)).symm | exact zadd0 (if_neg (by omega)).symm | exact zadd0 (zbF (by omega)) | exact (Int.sub_zero _).symm), rfl, rfl, rfl, trivial⟩ ih19
        · refine zF_iconst 39 dX12_holds_38 rfl ?_
          refine zF_goto 43 dX12_holds_39 rfl ?_
          refine zF_iadd 44 dX12_holds_43 rfl ?_
          refine zF_istore_n 45 (ls' := [(3, zI ((mDaysN N s (mSh N s 6) i) + 1)), (4, zI (i : Int)), (2, zI (mSh N s 6)), (0, zR (E 0)), (1, zI s)]) dX12_holds_44 rfl (by decide) rfl ?_
          refine zF_iinc 48 (ls' := [(4, zI ((i : Int) + 1)), (3, zI ((mDaysN N s (mSh N s 6) i) + 1)), (2, zI (mSh N s 6)), (0, zR (E 0)), (1, zI s)]) dX12_holds_45 rfl rfl rfl (by decide) rfl ?_
          refine zF_goto 19 dX12_holds_48 rfl ?_
          exact zF_locs (ls' := [(4, zI ((i + 1 : Nat) : Int)), (3, zI (mDaysN N s (mSh N s 6) (i + 1))), (2, zI (mSh N s 6)), (0, zR (E 0)), (1, zI s)]) ⟨zlI rfl (by first | rfl | omega | (push_cast; omega) | exact congrArg (_ + ·) (zbT (by assumption)) | exact congrArg (_ + ·) (zbF (by assumption)) | exact congrArg (_ + ·) (zbT (by omega)) | exact congrArg (_ + ·) (zbF (by omega)) | exact congrArg (_ + ·) (if_pos (by omega)).symm | exact congrArg (_ + ·) (if_neg (by omega)).symm | exact (if_pos (by omega)).symm | exact (if_neg (by omega)).symm | exact zsub_s (if_pos (by omega)).symm | exact zsub_s0 (if_neg (by omega)).symm | exact zadd0 (if_neg (by omega)).symm | exact zadd0 (zbF (by omega)) | exact (Int.sub_zero _).symm), zlI rfl (by first | rfl | omega | (push_cast; omega) | exact congrArg (_ + ·) (zbT (by assumption)) | exact congrArg (_ + ·) (zbF (by assumption)) | exact congrArg (_ + ·) (zbT (by omega)) | exact congrArg (_ + ·) (zbF (by omega)) | exact congrArg (_ + ·) (if_pos (by omega)).symm | exact congrArg (_ + ·) (if_neg (by omega)).symm | exact (if_pos (by omega)).symm | exact (if_neg (by omega)).symm | exact zsub_s (if_pos (by omega)).symm | exact zsub_s0 (if_neg (by omega)).symm | exact zadd0 (if_neg (by omega)).symm | exact zadd0 (zbF (by omega)) | exact (Int.sub_zero _).symm), rfl, rfl, rfl, trivial⟩ ih19
    · show zF G mX12_holds (d + 4) 19 [(4, zI ((7 : Nat) : Int)), (3, zI (mDaysN N s (mSh N s 6) 7)), (2, zI (mSh N s 6)), (0, zR (E 0)), (1, zI s)] [] σ _
      have hgb := gBy_b hV (gg_v hV hg) s0 (by omega : s < 10) (mSh N s 6)
      have hd := mDays_b N s (mSh N s 6)
      change 0 ≤ mDaysN N s (mSh N s 6) 7 ∧ mDaysN N s (mSh N s 6) 7 ≤ 7 at hd
      have p1 := zmul_b (a := mH N (mS N s 0) 1) (b := mCap N s) (X := 100) (Y := 3000) (by omega) (by omega) (by omega) (by omega)
      have p2 := zmul_b (a := mH N (mS N s 0) 1 * mCap N s) (b := mPrice N s) (X := 300000) (Y := 99) (by omega) (by omega) (by omega) (by omega)
      have p3 := zmul_b (a := mH N (mS N s 0) 1 * mCap N s * mPrice N s) (b := mDaysN N s (mSh N s 6) 7) (X := 29700000) (Y := 7) (by omega) (by omega) (by omega) (by omega)
      have pe : mH N (mS N s 0) 1 * (mDays N s (mSh N s 6) * mCap N s * mPrice N s) = mH N (mS N s 0) 1 * mCap N s * mPrice N s * mDaysN N s (mSh N s 6) 7 := by
          unfold mDays
          rw [← Int.mul_assoc, ← Int.mul_assoc, Int.mul_right_comm (mH N (mS N s 0) 1), Int.mul_right_comm (mH N (mS N s 0) 1 * mCap N s)]
      refine zF_iload 21 dX12_holds_19 rfl rfl ?_
      refine zF_bipush 23 dX12_holds_21 rfl (by decide) ?_
      refine zF_icmp_ge 51 26 dX12_holds_23 rfl rfl (by first | decide | assumption | exact hb _ | exact mSh_rg hb _ _ | exact zb_rg _ | (constructor <;> omega)) (by first | decide | assumption | exact hb _ | exact mSh_rg hb _ _ | exact zb_rg _ | (constructor <;> omega)) (fun c4 => ?_) (fun c4 => ?_)
      · refine zF_aload_n 52 dX12_holds_51 rfl rfl ?_
        refine zF_iload_n 53 dX12_holds_52 rfl rfl ?_
        refine zF_iload_n 54 dX12_holds_53 rfl rfl ?_
        refine zF_callVi 57 (d2 := (d + 3)) (as := [zI s, zI (mSh N s 6)]) dX12_holds_54 rfl kX12_86 iX12_took (ci := 12) rfl eX12_took (Nat.le_refl _) hE.k0 hE.l0 rfl rfl (Nat.le_of_ble_eq_true rfl) (zt_X12_took hE hV hW hg (by omega) (by omega) (by omega) (by first | decide | assumption | exact hb _ | exact mSh_rg hb _ _ | exact zb_rg _ | (constructor <;> omega))) ?_
        refine zF_bipush 59 dX12_holds_57 rfl (by decide) ?_
        refine zF_imul 60 dX12_holds_59 rfl ?_
        refine zF_aload_n 61 dX12_holds_60 rfl rfl ?_
        refine zF_getR 64 dX12_holds_61 rfl gX12_9 hE.k0 hE.l0 (hE.f 6 6 4 (by decide)).1 ?_
        refine zF_aload_n 65 dX12_holds_64 rfl rfl ?_
        refine zF_getR 68 dX12_holds_65 rfl gX12_15 hE.k0 hE.l0 (hE.f 7 6 10 (by decide)).1 ?_
        refine zF_iload_n 69 dX12_holds_68 rfl rfl ?_
        refine zF_aaldA 70 dX12_holds_69 rfl (hE.f 7 6 10 (by decide)).2.2 (hE.f 7 6 10 (by decide)).2.1 (by omega) (by omega) (hE.r7 _ (by omega) (by omega)).1 ?_
        refine zF_iconst 71 dX12_holds_70 rfl ?_
        refine zF_iaload 72 dX12_holds_71 rfl (hE.r7 _ (by omega) (by omega)).2.2 (hE.r7 _ (by omega) (by omega)).2.1 (by omega) (by omega) (hE.c7 _ _ (by omega) (by omega) (by omega) (by omega)) ?_
        refine zF_aaldA 73 dX12_holds_72 rfl (hE.f 6 6 4 (by decide)).2.2 (hE.f 6 6 4 (by decide)).2.1 (by omega) (by omega) (hE.r6 _ (by omega) (by omega)).1 ?_
        refine zF_iconst 74 dX12_holds_73 rfl ?_
        refine zF_iaload 75 dX12_holds_74 rfl (hE.r6 _ (by omega) (by omega)).2.2 (hE.r6 _ (by omega) (by omega)).2.1 (by omega) (by omega) (hE.c6 _ _ (by omega) (by omega) (by omega) (by omega)) ?_
        refine zF_aload_n 76 dX12_holds_75 rfl rfl ?_
        refine zF_iload_n 77 dX12_holds_76 rfl rfl ?_
        refine zF_callVi 80 (d2 := (d + 3)) (as := [zI s]) dX12_holds_77 rfl kX12_69 iX12_room (ci := 12) rfl eX12_room (Nat.le_refl _) hE.k0 hE.l0 rfl rfl (Nat.le_of_ble_eq_true rfl) (zt_X12_room hE hV (by omega) (by omega)) ?_
        refine zF_imul 81 dX12_holds_80 rfl ?_
        refine zF_aload_n 82 dX12_holds_81 rfl rfl ?_
        refine zF_iload_n 83 dX12_holds_82 rfl rfl ?_
        refine zF_callVi 86 (d2 := (d + 3)) (as := [zI s]) dX12_holds_83 rfl kX12_83 iX12_price (ci := 12) rfl eX12_price (Nat.le_refl _) hE.k0 hE.l0 rfl rfl (Nat.le_of_ble_eq_true rfl) (zt_X12_price hE hV hW (by omega) (by omega)) ?_
        refine zF_imul 87 dX12_holds_86 rfl ?_
        refine zF_iload_n 88 dX12_holds_87 rfl rfl ?_
        refine zF_imul 89 dX12_holds_88 rfl ?_
        refine zF_icmp_lt 96 92 dX12_holds_89 rfl rfl (by first | decide | assumption | exact hb _ | exact mSh_rg hb _ _ | exact zb_rg _ | (constructor <;> omega)) (by first | decide | assumption | exact hb _ | exact mSh_rg hb _ _ | exact zb_rg _ | (constructor <;> omega)) (fun c5 => ?_) (fun c5 => ?_)
        · refine zF_iconst 97 dX12_holds_96 rfl ?_
          exact zF_zretP dX12_holds_97 rfl (by decide) (by first | exact zbT ⟨by omega, by rw [pe]; omega⟩ | exact zbF (fun q => by have := q.2; rw [pe] at this; omega))
        · refine zF_iconst 93 dX12_holds_92 rfl ?_
          refine zF_goto 97 dX12_holds_93 rfl ?_
          exact zF_zretP dX12_holds_97 rfl (by decide) (by first | exact zbT ⟨by omega, by rw [pe]; omega⟩ | exact zbF (fun q => by have := q.2; rw [pe] at this; omega))
      · exact absurd c4 (by omega)
  · refine zF_iconst 13 dX12_holds_12 rfl ?_
    exact zF_zretP dX12_holds_13 rfl (by decide) (zbF (fun q => by have := q.1; omega))
theorem zt_X12_gain {h : Int} {Ra Ta : Nat} {t : Int → Int} (hE : eO N σ E) (hV : mV N) (hW : mW N) (hQ : mC4 N) (h0 : 0 ≤ h) (h1 : h < N 0) (ha : zkd σ Ra = (1, nn N h)) (la : Ra < zn σ) (va : ∀ k : Nat, k < nn N h → zia σ Ra k = rk N h k) (ht : zkd σ Ta = (1, nn N h)) (lt : Ta < zn σ) (vt : ∀ k : Nat, k < nn N h → zia σ Ta k = t k) (rt : ∀ k : Nat, k < nn N h → zrg (t k)) : zP1 G mX12_gain (d + 2) [zR (E 0), zI h, zR Ra, zR Ta] σ (pG N h (lmP N h) t) := by
  refine zE_of rfl (by simp [zcat]) (Nat.le_of_ble_eq_true rfl) ?_
  show zF G mX12_gain (d + 2) 0 [(0, zR (E 0)), (1, zI h), (2, zR Ra), (3, zR Ta)] [] σ _
  have hb := hV.b
  have hn := hV.n
  have hh := nF_eq hV
  have hnn := nn_eq hQ h
  refine zF_iconst 1 dX12_gain_0 rfl ?_
  refine zF_istore 3 (ls' := [(4, zI 0), (0, zR (E 0)), (1, zI h), (2, zR Ra), (3, zR Ta)]) dX12_gain_1 rfl (by decide) rfl ?_
  refine zF_iconst 4 dX12_gain_3 rfl ?_
  refine zF_istore 6 (ls' := [(5, zI 0), (4, zI 0), (0, zR (E 0)), (1, zI h), (2, zR Ra), (3, zR Ta)]) dX12_gain_4 rfl (by decide) rfl ?_
  refine zF_locs (ls' := [(5, zI ((0 : Nat) : Int)), (4, zI (pGN N h (lmP N h) t 0)), (0, zR (E 0)), (1, zI h), (2, zR Ra), (3, zR Ta)]) ⟨zlI rfl (by first | rfl | omega | (push_cast; omega) | exact congrArg (_ + ·) (zbT (by assumption)) | exact congrArg (_ + ·) (zbF (by assumption)) | exact congrArg (_ + ·) (zbT (by omega)) | exact congrArg (_ + ·) (zbF (by omega)) | exact congrArg (_ + ·) (if_pos (by omega)).symm | exact congrArg (_ + ·) (if_neg (by omega)).symm | exact (if_pos (by omega)).symm | exact (if_neg (by omega)).symm | exact zsub_s (if_pos (by omega)).symm | exact zsub_s0 (if_neg (by omega)).symm | exact zadd0 (if_neg (by omega)).symm | exact zadd0 (zbF (by omega)) | exact (Int.sub_zero _).symm), zlI rfl (by first | rfl | omega | (push_cast; omega) | exact congrArg (_ + ·) (zbT (by assumption)) | exact congrArg (_ + ·) (zbF (by assumption)) | exact congrArg (_ + ·) (zbT (by omega)) | exact congrArg (_ + ·) (zbF (by omega)) | exact congrArg (_ + ·) (if_pos (by omega)).symm | exact congrArg (_ + ·) (if_neg (by omega)).symm | exact (if_pos (by omega)).symm | exact (if_neg (by omega)).symm | exact zsub_s (if_pos (by omega)).symm | exact zsub_s0 (if_neg (by omega)).symm | exact zadd0 (if_neg (by omega)).symm | exact zadd0 (zbF (by omega)) | exact (Int.sub_zero _).symm), rfl, rfl, rfl, rfl, trivial⟩ ?_
  refine zF_while (X := Nat) (fun x => nF N - x) (fun x σ2 => x ≤ nF N ∧ σ2 = σ ∧ pGN N h (lmP N h) t x ≠ -1) (fun x => [(5, zI ((x : Nat) : Int)), (4, zI (pGN N h (lmP N h) t x)), (0, zR (E 0)), (1, zI h), (2, zR Ra), (3, zR Ta)]) ?_ 0 σ (⟨by omega, rfl, by show (0 : Int) ≠ -1; decide⟩)
  intro x σ2 hI6 ih6
  show zF G mX12_gain (d + 2) 6 [(5, zI ((x : Nat) : Int)), (4, zI (pGN N h (lmP N h) t x)), (0, zR (E 0)), (1, zI h), (2, zR Ra), (3, zR Ta)] [] σ2 _
  obtain ⟨hx, e2, hne⟩ := hI6
  subst e2
  refine zF_iload 8 dX12_gain_6 rfl rfl ?_
  refine zF_aload_n 9 dX12_gain_8 rfl rfl ?_
  refine zF_getI 12 dX12_gain_9 rfl gX12_42 (by decide) (by decide) hE.k0 hE.l0 hE.i2 ?_
  refine zF_icmp_ge 136 15 dX12_gain_12 rfl rfl (by first | decide | assumption | exact hb _ | exact mSh_rg hb _ _ | exact zb_rg _ | (constructor <;> omega)) (by first | decide | assumption | exact hb _ | exact mSh_rg hb _ _ | exact zb_rg _ | (constructor <;> omega)) (fun c1 => ?_) (fun c1 => ?_)
  · refine zF_iload 138 dX12_gain_136 rfl rfl ?_
    exact zF_iretP dX12_gain_138 rfl (by have ex : x = nF N := (by omega); subst ex; rfl)
  · refine zF_iconst 16 dX12_gain_15 rfl ?_
    refine zF_istore 18 (ls' := [(6, zI 0), (5, zI ((x : Nat) : Int)), (4, zI (pGN N h (lmP N h) t x)), (0, zR (E 0)), (1, zI h), (2, zR Ra), (3, zR Ta)]) dX12_gain_16 rfl (by decide) rfl ?_
    refine zF_iconst 19 dX12_gain_18 rfl ?_
    refine zF_istore 21 (ls' := [(7, zI 0), (6, zI 0), (5, zI ((x : Nat) : Int)), (4, zI (pGN N h (lmP N h) t x)), (0, zR (E 0)), (1, zI h), (2, zR Ra), (3, zR Ta)]) dX12_gain_19 rfl (by decide) rfl ?_
    refine zF_iconst 22 dX12_gain_21 rfl ?_
    refine zF_istore 24 (ls' := [(8, zI 0), (7, zI 0), (6, zI 0), (5, zI ((x : Nat) : Int)), (4, zI (pGN N h (lmP N h) t x)), (0, zR (E 0)), (1, zI h), (2, zR Ra), (3, zR Ta)]) dX12_gain_22 rfl (by decide) rfl ?_
    refine zF_locs (ls' := (fun (i : Nat) => [(8, zI (i : Int)), (7, zI (pRoom N h t (x : Int) i)), (6, zI (pCnt t (x : Int) i)), (5, zI ((x : Nat) : Int)), (4, zI (pGN N h (lmP N h) t x)), (0, zR (E 0)), (1, zI h), (2, zR Ra), (3, zR Ta)]) 0) ⟨zlI rfl (by first | rfl | omega | (push_cast; omega) | exact congrArg (_ + ·) (zbT (by assumption)) | exact congrArg (_ + ·) (zbF (by assumption)) | exact congrArg (_ + ·) (zbT (by omega)) | exact congrArg (_ + ·) (zbF (by omega)) | exact congrArg (_ + ·) (if_pos (by omega)).symm | exact congrArg (_ + ·) (if_neg (by omega)).symm | exact (if_pos (by omega)).symm | exact (if_neg (by omega)).symm | exact zsub_s (if_pos (by omega)).symm | exact zsub_s0 (if_neg (by omega)).symm | exact zadd0 (if_neg (by omega)).symm | exact zadd0 (zbF (by omega)) | exact (Int.sub_zero _).symm), zlI rfl (by first | rfl | omega | (push_cast; omega) | exact congrArg (_ + ·) (zbT (by assumption)) | exact congrArg (_ + ·) (zbF (by assumption)) | exact congrArg (_ + ·) (zbT (by omega)) | exact congrArg (_ + ·) (zbF (by omega)) | exact congrArg (_ + ·) (if_pos (by omega)).symm | exact congrArg (_ + ·) (if_neg (by omega)).symm | exact (if_pos (by omega)).symm | exact (if_neg (by omega)).symm | exact zsub_s (if_pos (by omega)).symm | exact zsub_s0 (if_neg (by omega)).symm | exact zadd0 (if_neg (by omega)).symm | exact zadd0 (zbF (by omega)) | exact (Int.sub_zero _).symm), zlI rfl (by first | rfl | omega | (push_cast; omega) | exact congrArg (_ + ·) (zbT (by assumption)) | exact congrArg (_ + ·) (zbF (by assumption)) | exact congrArg (_ + ·) (zbT (by omega)) | exact congrArg (_ + ·) (zbF (by omega)) | exact congrArg (_ + ·) (if_pos (by omega)).symm | exact congrArg (_ + ·) (if_neg (by omega)).symm | exact (if_pos (by omega)).symm | exact (if_neg (by omega)).symm | exact zsub_s (if_pos (by omega)).symm | exact zsub_s0 (if_neg (by omega)).symm | exact zadd0 (if_neg (by omega)).symm | exact zadd0 (zbF (by omega)) | exact (Int.sub_zero _).symm), rfl, rfl, rfl, rfl, rfl, rfl, trivial⟩ ?_
    refine zF_loop (n := (nn N h)) (fun (i : Nat) => [(8, zI (i : Int)), (7, zI (pRoom N h t (x : Int) i)), (6, zI (pCnt t (x : Int) i)), (5, zI ((x : Nat) : Int)), (4, zI (pGN N h (lmP N h) t x)), (0, zR (E 0)), (1, zI h), (2, zR Ra), (3, zR Ta)]) (fun _ => σ2) (fun i hi ih24 => ?_) ?_
    · show zF G mX12_gain (d + 2) 24 [(8, zI (i : Int)), (7, zI (pRoom N h t (x : Int) i)), (6, zI (pCnt t (x : Int) i)), (5, zI ((x : Nat) : Int)), (4, zI (pGN N h (lmP N h) t x)), (0, zR (E 0)), (1, zI h), (2, zR Ra), (3, zR Ta)] [] σ2 _
      have rti := rt i hi
      have rki := rk_b hV (h := h) (k := (i : Int)) (by omega) (by omega)
      refine zF_iload 26 dX12_gain_24 rfl rfl ?_
      refine zF_aload_n 27 dX12_gain_26 rfl rfl ?_
      refine zF_alen 28 dX12_gain_27 rfl (by decide) ha la ?_
      refine zF_icmp_ge 65 31 dX12_gain_28 rfl rfl (by first | decide | assumption | exact hb _ | exact mSh_rg hb _ _ | exact zb_rg _ | (constructor <;> omega)) (by first | decide | assumption | exact hb _ | exact mSh_rg hb _ _ | exact zb_rg _ | (constructor <;> omega)) (fun c2 => ?_) (fun c2 => ?_)
      · exact absurd c2 (by omega)
      · refine zF_aload_n 32 dX12_gain_31 rfl rfl ?_
        refine zF_iload 34 dX12_gain_32 rfl rfl ?_
        refine zF_iaload 35 dX12_gain_34 rfl ht lt (by omega) (by omega) (vt _ (by omega)) ?_
        refine zF_iload 37 dX12_gain_35 rfl rfl ?_
        refine zF_icmp_eq 43 40 dX12_gain_37 rfl rfl (by first | decide | assumption | exact hb _ | exact mSh_rg hb _ _ | exact zb_rg _ | (constructor <;> omega)) (by first | decide | assumption | exact hb _ | exact mSh_rg hb _ _ | exact zb_rg _ | (constructor <;> omega)) (fun c3 => ?_) (fun c3 => ?_)
        · refine zF_iinc 46 (ls' := [(6, zI ((pCnt t (x : Int) i) + 1)), (8, zI (i : Int)), (7, zI (pRoom N h t (x : Int) i)), (5, zI ((x : Nat) : Int)), (4, zI (pGN N h (lmP N h) t x)), (0, zR (E 0)), (1, zI h), (2, zR Ra), (3, zR Ta)]) dX12_gain_43 rfl rfl rfl (by decide) rfl ?_
          refine zF_iload 48 dX12_gain_46 rfl rfl ?_
          refine zF_aload_n 49 dX12_gain_48 rfl rfl ?_
          refine zF_aload_n 50 dX12_gain_49 rfl rfl ?_
          refine zF_iload 52 dX12_gain_50 rfl rfl ?_
          refine zF_iaload 53 dX12_gain_52 rfl ha la (by omega) (by omega) (va _ (by omega)) ?_
          refine zF_callVi 56 (d2 := (d + 1)) (as := [zI (rk N h (i : Int))]) dX12_gain_53 rfl kX12_69 iX12_room (ci := 12) rfl eX12_room (Nat.le_refl _) hE.k0 hE.l0 rfl rfl (Nat.le_of_ble_eq_true rfl) (zt_X12_room hE hV (by omega) (by omega)) ?_
          refine zF_iadd 57 dX12_gain_56 rfl ?_
          refine zF_istore 59 (ls' := [(7, zI ((pRoom N h t (x : Int) i) + (mCap N (rk N h (i : Int))))), (6, zI ((pCnt t (x : Int) i) + 1)), (8, zI (i : Int)), (5, zI ((x : Nat) : Int)), (4, zI (pGN N h (lmP N h) t x)), (0, zR (E 0)), (1, zI h), (2, zR Ra), (3, zR Ta)]) dX12_gain_57 rfl (by decide) rfl ?_
          refine zF_iinc 62 (ls' := [(8, zI ((i : Int) + 1)), (7, zI ((pRoom N h t (x : Int) i) + (mCap N (rk N h (i : Int))))), (6, zI ((pCnt t (x : Int) i) + 1)), (5, zI ((x : Nat) : Int)), (4, zI (pGN N h (lmP N h) t x)), (0, zR (E 0)), (1, zI h), (2, zR Ra), (3, zR Ta)]) dX12_gain_59 rfl rfl rfl (by decide) rfl ?_
          refine zF_goto 24 dX12_gain_62 rfl ?_
          exact zF_locs (ls' := [(8, zI ((i + 1 : Nat) : Int)), (7, zI (pRoom N h t (x : Int) (i + 1))), (6, zI (pCnt t (x : Int) (i + 1))), (5, zI ((x : Nat) : Int)), (4, zI (pGN N h (lmP N h) t x)), (0, zR (E 0)), (1, zI h), (2, zR Ra), (3, zR Ta)]) ⟨zlI rfl (by first | rfl | omega | (push_cast; omega) | exact congrArg (_ + ·) (zbT (by assumption)) | exact congrArg (_ + ·) (zbF (by assumption)) | exact congrArg (_ + ·) (zbT (by omega)) | exact congrArg (_ + ·) (zbF (by omega)) | exact congrArg (_ + ·) (if_pos (by omega)).symm | exact congrArg (_ + ·) (if_neg (by omega)).symm | exact (if_pos (by omega)).symm | exact (if_neg (by omega)).symm | exact zsub_s (if_pos (by omega)).symm | exact zsub_s0 (if_neg (by omega)).symm | exact zadd0 (if_neg (by omega)).symm | exact zadd0 (zbF (by omega)) | exact (Int.sub_zero _).symm), zlI rfl (by first | rfl | omega | (push_cast; omega) | exact congrArg (_ + ·) (zbT (by assumption)) | exact congrArg (_ + ·) (zbF (by assumption)) | exact congrArg (_ + ·) (zbT (by omega)) | exact congrArg (_ + ·) (zbF (by omega)) | exact congrArg (_ + ·) (if_pos (by omega)).symm | exact congrArg (_ + ·) (if_neg (by omega)).symm | exact (if_pos (by omega)).symm | exact (if_neg (by omega)).symm | exact zsub_s (if_pos (by omega)).symm | exact zsub_s0 (if_neg (by omega)).symm | exact zadd0 (if_neg (by omega)).symm | exact zadd0 (zbF (by omega)) | exact (Int.sub_zero _).symm), zlI rfl (by first | rfl | omega | (push_cast; omega) | exact congrArg (_ + ·) (zbT (by assumption)) | exact congrArg (_ + ·) (zbF (by assumption)) | exact congrArg (_ + ·) (zbT (by omega)) | exact congrArg (_ + ·) (zbF (by omega)) | exact congrArg (_ + ·) (if_pos (by omega)).symm | exact congrArg (_ + ·) (if_neg (by omega)).symm | exact (if_pos (by omega)).symm | exact (if_neg (by omega)).symm | exact zsub_s (if_pos (by omega)).symm | exact zsub_s0 (if_neg (by omega)).symm | exact zadd0 (if_neg (by omega)).symm | exact zadd0 (zbF (by omega)) | exact (Int.sub_zero _).symm), rfl, rfl, rfl, rfl, rfl, rfl, trivial⟩ ih24
        · refine zF_goto 59 dX12_gain_40 rfl ?_
          refine zF_iinc 62 (ls' := [(8, zI ((i : Int) + 1)), (7, zI (pRoom N h t (x : Int) i)), (6, zI (pCnt t (x : Int) i)), (5, zI ((x : Nat) : Int)), (4, zI (pGN N h (lmP N h) t x)), (0, zR (E 0)), (1, zI h), (2, zR Ra), (3, zR Ta)]) dX12_gain_59 rfl rfl rfl (by decide) rfl ?_
          refine zF_goto 24 dX12_gain_62 rfl ?_
          exact zF_locs (ls' := [(8, zI ((i + 1 : Nat) : Int)), (7, zI (pRoom N h t (x : Int) (i + 1))), (6, zI (pCnt t (x : Int) (i + 1))), (5, zI ((x : Nat) : Int)), (4, zI (pGN N h (lmP N h) t x)), (0, zR (E 0)), (1, zI h), (2, zR Ra), (3, zR Ta)]) ⟨zlI rfl (by first | rfl | omega | (push_cast; omega) | exact congrArg (_ + ·) (zbT (by assumption)) | exact congrArg (_ + ·) (zbF (by assumption)) | exact congrArg (_ + ·) (zbT (by omega)) | exact congrArg (_ + ·) (zbF (by omega)) | exact congrArg (_ + ·) (if_pos (by omega)).symm | exact congrArg (_ + ·) (if_neg (by omega)).symm | exact (if_pos (by omega)).symm | exact (if_neg (by omega)).symm | exact zsub_s (if_pos (by omega)).symm | exact zsub_s0 (if_neg (by omega)).symm | exact zadd0 (if_neg (by omega)).symm | exact zadd0 (zbF (by omega)) | exact (Int.sub_zero _).symm), zlI rfl (by first | rfl | omega | (push_cast; omega) | exact congrArg (_ + ·) (zbT (by assumption)) | exact congrArg (_ + ·) (zbF (by assumption)) | exact congrArg (_ + ·) (zbT (by omega)) | exact congrArg (_ + ·) (zbF (by omega)) | exact congrArg (_ + ·) (if_pos (by omega)).symm | exact congrArg (_ + ·) (if_neg (by omega)).symm | exact (if_pos (by omega)).symm | exact (if_neg (by omega)).symm | exact zsub_s (if_pos (by omega)).symm | exact zsub_s0 (if_neg (by omega)).symm | exact zadd0 (if_neg (by omega)).symm | exact zadd0 (zbF (by omega)) | exact (Int.sub_zero _).symm), zlI rfl (by first | rfl | omega | (push_cast; omega) | exact congrArg (_ + ·) (zbT (by assumption)) | exact congrArg (_ + ·) (zbF (by assumption)) | exact congrArg (_ + ·) (zbT (by omega)) | exact congrArg (_ + ·) (zbF (by omega)) | exact congrArg (_ + ·) (if_pos (by omega)).symm | exact congrArg (_ + ·) (if_neg (by omega)).symm | exact (if_pos (by omega)).symm | exact (if_neg (by omega)).symm | exact zsub_s (if_pos (by omega)).symm | exact zsub_s0 (if_neg (by omega)).symm | exact zadd0 (if_neg (by omega)).symm | exact zadd0 (zbF (by omega)) | exact (Int.sub_zero _).symm), rfl, rfl, rfl, rfl, rfl, rfl, trivial⟩ ih24
    · show zF G mX12_gain (d + 2) 24 [(8, zI (((nn N h) : Nat) : Int)), (7, zI (pRoom N h t (x : Int) (nn N h))), (6, zI (pCnt t (x : Int) (nn N h))), (5, zI ((x : Nat) : Int)), (4, zI (pGN N h (lmP N h) t x)), (0, zR (E 0)), (1, zI h), (2, zR Ra), (3, zR Ta)] [] σ2 _
      have hpc := pCnt_b t (x : Int) (nn N h)
      have hpr := pRoom_b hV h t (x : Int) (nn N h) (Nat.le_refl _) hnn.2
      have hpt := pTk_b hV hQ h0 (by omega : h < 4) t (f := (x : Int)) (by omega) (by omega)
      have hpp := hV.p (x : Int) h (by omega) (by omega) (by omega) (by omega)
      have hdm := mDem_b hV (f := (x : Int)) (by omega) (by omega) (mAge N (x : Int)).toNat
      change 0 ≤ mDem N (x : Int) ∧ mDem N (x : Int) ≤ 9999 at hdm
      have hg1 := pG1_p hV hQ h0 (by omega : h < 4) (lmP N h) t (f := (x : Int)) (by omega) (by omega)
      refine zF_iload 26 dX12_gain_24 rfl rfl ?_
      refine zF_aload_n 27 dX12_gain_26 rfl rfl ?_
      refine zF_alen 28 dX12_gain_27 rfl (by decide) ha la ?_
      refine zF_icmp_ge 65 31 dX12_gain_28 rfl rfl (by first | decide | assumption | exact hb _ | exact mSh_rg hb _ _ | exact zb_rg _ | (constructor <;> omega)) (by first | decide | assumption | exact hb _ | exact mSh_rg hb _ _ | exact zb_rg _ | (constructor <;> omega)) (fun c4 => ?_) (fun c4 => ?_)
      · refine zF_iload 67 dX12_gain_65 rfl rfl ?_
        refine zF_aload_n 68 dX12_gain_67 rfl rfl ?_
        refine zF_getR 71 dX12_gain_68 rfl gX12_22 hE.k0 hE.l0 (hE.f 9 6 6 (by decide)).1 ?_
        refine zF_iload 73 dX12_gain_71 rfl rfl ?_
        refine zF_aaldA 74 dX12_gain_73 rfl (hE.f 9 6 6 (by decide)).2.2 (hE.f 9 6 6 (by decide)).2.1 (by omega) (by omega) (hE.r9 _ (by omega) (by omega)).1 ?_
        refine zF_iload_n 75 dX12_gain_74 rfl rfl ?_
        refine zF_iconst 76 dX12_gain_75 rfl ?_
        refine zF_iadd 77 dX12_gain_76 rfl ?_
        refine zF_iaload 78 dX12_gain_77 rfl (hE.r9 _ (by omega) (by omega)).2.2 (hE.r9 _ (by omega) (by omega)).2.1 (by omega) (by omega) (hE.c9 _ _ (by omega) (by omega) (by omega) (by omega)) ?_
        refine zF_icmp_le 83 81 dX12_gain_78 rfl rfl (by first | decide | assumption | exact hb _ | exact mSh_rg hb _ _ | exact zb_rg _ | (constructor <;> omega)) (by first | decide | assumption | exact hb _ | exact mSh_rg hb _ _ | exact zb_rg _ | (constructor <;> omega)) (fun c5 => ?_) (fun c5 => ?_)
        · refine zF_bipush 85 dX12_gain_83 rfl (by decide) ?_
          refine zF_aload_n 86 dX12_gain_85 rfl rfl ?_
          refine zF_getR 89 dX12_gain_86 rfl gX12_9 hE.k0 hE.l0 (hE.f 6 6 4 (by decide)).1 ?_
          refine zF_iload_n 90 dX12_gain_89 rfl rfl ?_
          refine zF_aaldA 91 dX12_gain_90 rfl (hE.f 6 6 4 (by decide)).2.2 (hE.f 6 6 4 (by decide)).2.1 (by omega) (by omega) (hE.r6 _ (by omega) (by omega)).1 ?_
          refine zF_iconst 92 dX12_gain_91 rfl ?_
          refine zF_iaload 93 dX12_gain_92 rfl (hE.r6 _ (by omega) (by omega)).2.2 (hE.r6 _ (by omega) (by omega)).2.1 (by omega) (by omega) (hE.c6 _ _ (by omega) (by omega) (by omega) (by omega)) ?_
          refine zF_imul 94 dX12_gain_93 rfl ?_
          refine zF_aload_n 95 dX12_gain_94 rfl rfl ?_
          refine zF_iload 97 dX12_gain_95 rfl rfl ?_
          refine zF_callVi 100 (d2 := (d + 1)) (as := [zI ((x : Nat) : Int)]) dX12_gain_97 rfl kX12_66 iX12_daily (ci := 12) rfl eX12_daily (Nat.le_refl _) hE.k0 hE.l0 rfl rfl (Nat.le_of_ble_eq_true rfl) (zt_X12_daily hE hV (by omega) (by omega)) ?_
          refine zF_iload 102 dX12_gain_100 rfl rfl ?_
          refine zF_min 105 dX12_gain_102 rfl kX12_72 (Nat.le_refl _) (by first | decide | assumption | exact hb _ | exact mSh_rg hb _ _ | exact zb_rg _ | (constructor <;> omega)) (by first | decide | assumption | exact hb _ | exact mSh_rg hb _ _ | exact zb_rg _ | (constructor <;> omega)) (Nat.le_of_ble_eq_true rfl) ?_
          refine zF_imul 106 dX12_gain_105 rfl ?_
          refine zF_istore 108 (ls' := [(8, zI ((7 * (mH N h 0)) * (min (mDem N ((x : Nat) : Int)) (pRoom N h t (x : Int) (nn N h))))), (7, zI (pRoom N h t (x : Int) (nn N h))), (6, zI (pCnt t (x : Int) (nn N h))), (5, zI ((x : Nat) : Int)), (4, zI (pGN N h (lmP N h) t x)), (0, zR (E 0)), (1, zI h), (2, zR Ra), (3, zR Ta)]) dX12_gain_106 rfl (by decide) rfl ?_
          rw [show ((7 * (mH N h 0)) * (min (mDem N ((x : Nat) : Int)) (pRoom N h t (x : Int) (nn N h)))) = pTk N h t (x : Int) from Int.mul_right_comm _ _ _]
          refine zF_iload 110 dX12_gain_108 rfl rfl ?_
          refine zF_if_le 130 113 dX12_gain_110 rfl rfl (by first | decide | assumption | exact hb _ | exact mSh_rg hb _ _ | exact zb_rg _ | (constructor <;> omega)) (fun c6 => ?_) (fun c6 => ?_)
          · have hlm : lmP N h (x : Int) = mP N (x : Int) h := rfl
            have hgv : pG1 N h (lmP N h) t (x : Int) = if pCnt t (x : Int) (nn N h) = 0 then 0 else pTk N h t (x : Int) - mShare N h (x : Int) (pTk N h t (x : Int)) := if_neg (by omega)
            have hg0 : pCnt t (x : Int) (nn N h) = 0 → pG1 N h (lmP N h) t (x : Int) = 0 := fun z => hgv.trans (if_pos z)
            have hg9 : pCnt t (x : Int) (nn N h) ≠ 0 → pG1 N h (lmP N h) t (x : Int) = pTk N h t (x : Int) - mShare N h (x : Int) (pTk N h t (x : Int)) := fun z => hgv.trans (if_neg z)
            have hst : pGN N h (lmP N h) t (x + 1) = pGN N h (lmP N h) t x + pG1 N h (lmP N h) t (x : Int) := if_neg (by omega)
            have hgb := pGN_b hV hQ h0 (by omega : h < 4) (lmP N h) t hx
            refine zF_iinc 133 (ls' := [(5, zI (((x : Nat) : Int) + 1)), (8, zI (pTk N h t (x : Int))), (7, zI (pRoom N h t (x : Int) (nn N h))), (6, zI (pCnt t (x : Int) (nn N h))), (4, zI (pGN N h (lmP N h) t x)), (0, zR (E 0)), (1, zI h), (2, zR Ra), (3, zR Ta)]) dX12_gain_130 rfl rfl rfl (by decide) rfl ?_
            refine zF_goto 6 dX12_gain_133 rfl ?_
            exact zF_locs (ls' := [(5, zI (((x + 1) : Nat) : Int)), (4, zI (pGN N h (lmP N h) t (x + 1))), (0, zR (E 0)), (1, zI h), (2, zR Ra), (3, zR Ta)]) ⟨zlI rfl (by first | rfl | omega | (push_cast; omega) | exact congrArg (_ + ·) (zbT (by assumption)) | exact congrArg (_ + ·) (zbF (by assumption)) | exact congrArg (_ + ·) (zbT (by omega)) | exact congrArg (_ + ·) (zbF (by omega)) | exact congrArg (_ + ·) (if_pos (by omega)).symm | exact congrArg (_ + ·) (if_neg (by omega)).symm | exact (if_pos (by omega)).symm | exact (if_neg (by omega)).symm | exact zsub_s (if_pos (by omega)).symm | exact zsub_s0 (if_neg (by omega)).symm | exact zadd0 (if_neg (by omega)).symm | exact zadd0 (zbF (by omega)) | exact (Int.sub_zero _).symm), zlI rfl (by first | rfl | omega | (push_cast; omega) | exact congrArg (_ + ·) (zbT (by assumption)) | exact congrArg (_ + ·) (zbF (by assumption)) | exact congrArg (_ + ·) (zbT (by omega)) | exact congrArg (_ + ·) (zbF (by omega)) | exact congrArg (_ + ·) (if_pos (by omega)).symm | exact congrArg (_ + ·) (if_neg (by omega)).symm | exact (if_pos (by omega)).symm | exact (if_neg (by omega)).symm | exact zsub_s (if_pos (by omega)).symm | exact zsub_s0 (if_neg (by omega)).symm | exact zadd0 (if_neg (by omega)).symm | exact zadd0 (zbF (by omega)) | exact (Int.sub_zero _).symm), rfl, rfl, rfl, rfl, trivial⟩ (ih6 (x + 1) _ (by omega) (⟨by omega, rfl, by omega⟩))
          · refine zF_iload 115 dX12_gain_113 rfl rfl ?_
            refine zF_iload 117 dX12_gain_115 rfl rfl ?_
            refine zF_aload_n 118 dX12_gain_117 rfl rfl ?_
            refine zF_iload_n 119 dX12_gain_118 rfl rfl ?_
            refine zF_iload 121 dX12_gain_119 rfl rfl ?_
            refine zF_iload 123 dX12_gain_121 rfl rfl ?_
            refine zF_callVi 126 (d2 := (d + 1)) (as := [zI h, zI ((x : Nat) : Int), zI (pTk N h t (x : Int))]) dX12_gain_123 rfl kX12_96 iX12_part (ci := 12) rfl eX12_part (Nat.le_refl _) hE.k0 hE.l0 rfl rfl (Nat.le_of_ble_eq_true rfl) (zt_X12_part hE hV (by omega) (by omega) (by omega) (by omega) (by omega) (by omega)) ?_
            refine zF_isub 127 dX12_gain_126 rfl ?_
            refine zF_iadd 128 dX12_gain_127 rfl ?_
            refine zF_istore 130 (ls' := [(4, zI ((pGN N h (lmP N h) t x) + ((pTk N h t (x : Int)) - (mShare N h ((x : Nat) : Int) (pTk N h t (x : Int)))))), (8, zI (pTk N h t (x : Int))), (7, zI (pRoom N h t (x : Int) (nn N h))), (6, zI (pCnt t (x : Int) (nn N h))), (5, zI ((x : Nat) : Int)), (0, zR (E 0)), (1, zI h), (2, zR Ra), (3, zR Ta)]) dX12_gain_128 rfl (by decide) rfl ?_
            have hlm : lmP N h (x : Int) = mP N (x : Int) h := rfl
            have hgv : pG1 N h (lmP N h) t (x : Int) = if pCnt t (x : Int) (nn N h) = 0 then 0 else pTk N h t (x : Int) - mShare N h (x : Int) (pTk N h t (x : Int)) := if_neg (by omega)
            have hg0 : pCnt t (x : Int) (nn N h) = 0 → pG1 N h (lmP N h) t (x : Int) = 0 := fun z => hgv.trans (if_pos z)
            have hg9 : pCnt t (x : Int) (nn N h) ≠ 0 → pG1 N h (lmP N h) t (x : Int) = pTk N h t (x : Int) - mShare N h (x : Int) (pTk N h t (x : Int)) := fun z => hgv.trans (if_neg z)
            have hst : pGN N h (lmP N h) t (x + 1) = pGN N h (lmP N h) t x + pG1 N h (lmP N h) t (x : Int) := if_neg (by omega)
            have hgb := pGN_b hV hQ h0 (by omega : h < 4) (lmP N h) t hx
            refine zF_iinc 133 (ls' := [(5, zI (((x : Nat) : Int) + 1)), (4, zI ((pGN N h (lmP N h) t x) + ((pTk N h t (x : Int)) - (mShare N h ((x : Nat) : Int) (pTk N h t (x : Int)))))), (8, zI (pTk N h t (x : Int))), (7, zI (pRoom N h t (x : Int) (nn N h))), (6, zI (pCnt t (x : Int) (nn N h))), (0, zR (E 0)), (1, zI h), (2, zR Ra), (3, zR Ta)]) dX12_gain_130 rfl rfl rfl (by decide) rfl ?_
            refine zF_goto 6 dX12_gain_133 rfl ?_
            exact zF_locs (ls' := [(5, zI (((x + 1) : Nat) : Int)), (4, zI (pGN N h (lmP N h) t (x + 1))), (0, zR (E 0)), (1, zI h), (2, zR Ra), (3, zR Ta)]) ⟨zlI rfl (by first | rfl | omega | (push_cast; omega) | exact congrArg (_ + ·) (zbT (by assumption)) | exact congrArg (_ + ·) (zbF (by assumption)) | exact congrArg (_ + ·) (zbT (by omega)) | exact congrArg (_ + ·) (zbF (by omega)) | exact congrArg (_ + ·) (if_pos (by omega)).symm | exact congrArg (_ + ·) (if_neg (by omega)).symm | exact (if_pos (by omega)).symm | exact (if_neg (by omega)).symm | exact zsub_s (if_pos (by omega)).symm | exact zsub_s0 (if_neg (by omega)).symm | exact zadd0 (if_neg (by omega)).symm | exact zadd0 (zbF (by omega)) | exact (Int.sub_zero _).symm), zlI rfl (by first | rfl | omega | (push_cast; omega) | exact congrArg (_ + ·) (zbT (by assumption)) | exact congrArg (_ + ·) (zbF (by assumption)) | exact congrArg (_ + ·) (zbT (by omega)) | exact congrArg (_ + ·) (zbF (by omega)) | exact congrArg (_ + ·) (if_pos (by omega)).symm | exact congrArg (_ + ·) (if_neg (by omega)).symm | exact (if_pos (by omega)).symm | exact (if_neg (by omega)).symm | exact zsub_s (if_pos (by omega)).symm | exact zsub_s0 (if_neg (by omega)).symm | exact zadd0 (if_neg (by omega)).symm | exact zadd0 (zbF (by omega)) | exact (Int.sub_zero _).symm), rfl, rfl, rfl, rfl, trivial⟩ (ih6 (x + 1) _ (by omega) (⟨by omega, rfl, by omega⟩))
        · refine zF_iconst 82 dX12_gain_81 rfl ?_
          exact zF_iretP dX12_gain_82 rfl ((pGN_no1 (m := x) (n := nF N) (by unfold pG1; exact if_pos (by show mP N (x : Int) h < _; omega)) (by omega)).symm)
      · exact absurd c4 (by omega)
end ZE2

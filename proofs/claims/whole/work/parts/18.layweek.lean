/-! the reference: the whole week is laid -/
section ZT
variable {G : zG} {d : Nat} {σ : zMem} {hm : Nat} {A : Nat → Nat}
/-- what a load makes sure of -/
def mW (N : Int → Int) : Prop := ∀ s, 0 ≤ s → s < N 1 → mS N s 0 < N 0 ∧ mS N s 4 < N 2 ∧ mS N s 5 < N 2
theorem mW_sh {N : Int → Int} (h : mW N) {s : Int} (h0 : 0 ≤ s) (h1 : s < N 1) (day : Int) : mSh N s day < N 2 := by
  have := h s h0 h1
  unfold mSh
  split <;> omega
def LW (N : Int → Int) (D H F : Int) (gg : Int → Int) : Prop := ∀ s dd : Int, 0 ≤ s → s < 10 → 0 ≤ dd → dd < 7 → gg (7 * s + dd) = if s < N 1 ∧ (dd < D ∨ (dd = D ∧ (mS N s 0 < H ∨ (mS N s 0 = H ∧ mSh N s dd < F)))) then gv N s dd else 0
def LWs (N : Int → Int) (D H F : Int) (sv : Int → Int) : Prop := (∀ j : Int, 0 ≤ j → j < 10 → sv j = 0 ∨ sv j = 1) ∧ ∀ s : Int, 0 ≤ s → s < N 1 → sv s = 1 → mS N s 0 < H ∨ (mS N s 0 = H ∧ mSh N s D < F)
theorem gv_none {N : Int → Int} {s day : Int} (h : mSh N s day < 0) : gv N s day = 0 := if_neg fun q => by omega
theorem LW_0 {N gg : Int → Int} (h : ∀ j : Int, 0 ≤ j → j < 70 → gg j = 0) (hV : mV N) : LW N 0 0 0 gg := fun s dd a b c e => by
  rw [h _ (by omega) (by omega)]
  split
  · rename_i q
    have := hV.s s a b
    exact (gv_none (by omega)).symm
  · rfl
theorem LW_film {N gg gg' sv sv' : Int → Int} (hV : mV N) {D H F : Int} (f0 : 0 ≤ F) (h : LW N D H F gg) (hd : LDone N H F D sv gg sv' gg') (d0 : 0 ≤ D) (d1 : D < 7) : LW N D H (F + 1) gg' := fun s dd a b c e => by
  have hn := nS_eq hV
  by_cases q : s < N 1 ∧ mS N s 0 = H ∧ dd = D ∧ mSh N s D = F
  · obtain ⟨q1, q2, q3, q4⟩ := q
    obtain ⟨n, rfl⟩ := Int.eq_ofNat_of_zero_le a
    subst q3
    rw [(hd.2.1 n (by omega) q2 q4).2, if_pos ⟨q1, Or.inr ⟨rfl, Or.inr ⟨q2, by omega⟩⟩⟩]
  · rw [hd.2.2.2 _ (fun n h1 h2 h3 h4 => q ?_), h s dd a b c e]
    · by_cases z : s < N 1 ∧ (dd < D ∨ (dd = D ∧ (mS N s 0 < H ∨ (mS N s 0 = H ∧ mSh N s dd < F))))
      · rw [if_pos z, if_pos (by omega)]
      · rw [if_neg z, if_neg]
        intro w
        apply q
        have : dd = D := by omega
        subst this
        omega
    · have e1 : s = n := by omega
      have e2 : dd = D := by omega
      subst e1
      exact ⟨by omega, h2, e2, h3⟩
theorem LWs_film {N gg gg' sv sv' : Int → Int} (hV : mV N) {D H F : Int} (f0 : 0 ≤ F) (h : LWs N D H F sv) (hd : LDone N H F D sv gg sv' gg') : LWs N D H (F + 1) sv' := by
  have hn := nS_eq hV
  refine ⟨hd.1, fun s a b c => ?_⟩
  by_cases q : mS N s 0 = H ∧ mSh N s D = F
  · exact Or.inr ⟨q.1, by omega⟩
  · rw [hd.2.2.1 s (fun n h1 h2 h3 h4 => q ?_)] at c
    · rcases h.2 s a b c with z | z
      · exact Or.inl z
      · exact Or.inr ⟨z.1, by omega⟩
    · rw [h4]
      exact ⟨h2, h3⟩
theorem LW_house {N gg : Int → Int} (hV : mV N) (hW : mW N) {D H F : Int} (hF : N 2 ≤ F) (h : LW N D H F gg) : LW N D (H + 1) 0 gg := fun s dd a b c e => by
  rw [h s dd a b c e]
  by_cases z : s < N 1
  · have q := mW_sh hW a z dd
    have r := (mSh_b hV a b dd).1
    by_cases w : dd < D ∨ (dd = D ∧ mS N s 0 ≤ H)
    · rw [if_pos ⟨z, by omega⟩, if_pos ⟨z, by omega⟩]
    · rw [if_neg (by omega)]
      split
      · rename_i y
        exact (gv_none (by omega)).symm
      · rfl
  · rw [if_neg (fun y => z y.1), if_neg (fun y => z y.1)]
theorem LWs_house {N sv : Int → Int} {D H F : Int} (h : LWs N D H F sv) : LWs N D (H + 1) 0 sv := ⟨h.1, fun s a b c => by
  have := h.2 s a b c
  omega⟩
theorem LW_day {N gg : Int → Int} (hV : mV N) (hW : mW N) {D H : Int} (hH : N 0 ≤ H) (h : LW N D H 0 gg) : LW N (D + 1) 0 0 gg := fun s dd a b c e => by
  rw [h s dd a b c e]
  by_cases z : s < N 1
  · have q := (hW s a z).1
    have r := hV.s s a b
    by_cases w : dd ≤ D
    · rw [if_pos ⟨z, by omega⟩, if_pos ⟨z, by omega⟩]
    · rw [if_neg (by omega)]
      split
      · rename_i y
        exact (gv_none (by omega)).symm
      · rfl
  · rw [if_neg (fun y => z y.1), if_neg (fun y => z y.1)]
theorem LWs_0 {N sv : Int → Int} {D : Int} (h : ∀ j : Int, 0 ≤ j → j < 10 → sv j = 0) (hV : mV N) : LWs N D 0 0 sv := by
  have := hV.n
  exact ⟨fun j a b => Or.inl (h j a b), fun s a b c => absurd c (by rw [h s a (by omega)]; decide)⟩
/-- the visitors of all screens and days -/
def gOK (N gg : Int → Int) : Prop := ∀ s dd : Int, 0 ≤ s → s < 10 → 0 ≤ dd → dd < 7 → gg (7 * s + dd) = gv N s dd
theorem LW_end {N gg : Int → Int} {D : Int} (hD : 7 ≤ D) (h : LW N D 0 0 gg) : gOK N gg := fun s dd a b c e => by
  rw [h s dd a b c e]
  by_cases z : s < N 1
  · rw [if_pos ⟨z, by omega⟩]
  · rw [if_neg (fun y => z y.1)]
    exact (if_neg fun q => z q.2.1).symm
theorem LWs_z {N sv : Int → Int} {D H F : Int} (f0 : 0 ≤ F) (h : LWs N D H F sv) (hV : mV N) : ∀ s : Nat, s < nS N → mS N s 0 = H → mSh N s D = F → sv s = 0 := fun s a b c => by
  have hn := nS_eq hV
  rcases h.1 s (by omega) (by omega) with z | z
  · exact z
  · have := h.2 s (by omega) (by omega) z
    omega
theorem gv_b {N : Int → Int} (hV : mV N) {s : Int} (h0 : 0 ≤ s) (h1 : s < 10) (dd : Int) : 0 ≤ gv N s dd ∧ gv N s dd ≤ 3000 := by
  have := mCap_b hV h0 h1
  unfold gv
  split <;> omega
theorem gOK_V {N gg : Int → Int} (hV : mV N) (h : gOK N gg) : gV gg := fun j a b => by
  have e : j = 7 * (j / 7) + j % 7 := by omega
  rw [e, h (j / 7) (j % 7) (by omega) (by omega) (by omega) (by omega)]
  exact gv_b hV (by omega) (by omega) _
theorem zFr_N (hM : zMo σ hm A) {N : Int → Int} (hN : zia σ (A 0) = N) {σ2 : zMem} (f : zFr (fun y _ => y = A 7 ∨ y = A 8) σ σ2) : zia σ2 (A 0) = N :=
  (f.at fun j q => by
    rcases q with q | q
    · exact zMo_ne hM (j := 0) (k := 7) (by decide) (by decide) (by decide) q
    · exact zMo_ne hM (j := 0) (k := 8) (by decide) (by decide) (by decide) q).trans hN
theorem zt_X12_layWeek {N : Int → Int} (hM : zMo σ hm A) (hN : zia σ (A 0) = N) (hV : mV N) (hW : mW N) : zE G mX12_layWeek (d + 7) [zR hm] σ (fun ro σ1 => ro = .inl none ∧ zFr (fun y _ => y = A 7 ∨ y = A 8) σ σ1 ∧ gOK N (zia σ1 (A 7))) := by
  refine zE_of rfl (by simp [zcat]) (Nat.le_of_ble_eq_true rfl) ?_
  show zF G mX12_layWeek (d + 7) 0 [(0, zR hm)] [] σ _
  have hb := hV.b
  have hn := hV.n
  have h87 : A 8 ≠ A 7 := zMo_ne hM (by decide) (by decide) (by decide)
  refine zF_iconst 1 dX12_layWeek_0 rfl ?_
  refine zF_istore_n 2 (ls' := [(1, zI 0), (0, zR hm)]) dX12_layWeek_1 rfl (by decide) rfl ?_
  refine zF_locs (ls' := [(1, zI ((0 : Nat) : Int)), (0, zR hm)]) ⟨zlI rfl (by first | rfl | omega | (push_cast; omega) | exact congrArg (_ + ·) (zbT (by assumption)) | exact congrArg (_ + ·) (zbF (by assumption)) | exact congrArg (_ + ·) (zbT (by omega)) | exact congrArg (_ + ·) (zbF (by omega)) | exact congrArg (_ + ·) (if_pos (by omega)).symm | exact congrArg (_ + ·) (if_neg (by omega)).symm | exact (if_pos (by omega)).symm | exact (if_neg (by omega)).symm), rfl, trivial⟩ ?_
  refine zF_while (X := Nat) (fun x => 70 - x) (fun x σ1 => x ≤ 70 ∧ zFr (fun y _ => y = A 7 ∨ y = A 8) σ σ1 ∧ ∀ j : Int, 0 ≤ j → j < (x : Int) → zia σ1 (A 7) j = 0) (fun x => [(1, zI ((x : Nat) : Int)), (0, zR hm)]) ?_ 0 σ (⟨by omega, zFr.rf, fun j a b => absurd a (by omega)⟩)
  intro x σ1 hI2 ih2
  show zF G mX12_layWeek (d + 7) 2 [(1, zI ((x : Nat) : Int)), (0, zR hm)] [] σ1 _
  obtain ⟨hx, fr1, z1⟩ := hI2
  have hM1 := zMo_fr hM fr1
  have hN1 : zia σ1 (A 0) = N := zFr_N hM hN fr1
  refine zF_iload_n 3 dX12_layWeek_2 rfl rfl ?_
  refine zF_bipush 5 dX12_layWeek_3 rfl (by decide) ?_
  refine zF_icmp_ge 21 8 dX12_layWeek_5 rfl rfl (by first | decide | exact hb _ | exact mSh_rg hb _ _ | assumption | exact zb_rg _ | (constructor <;> omega)) (by first | decide | exact hb _ | exact mSh_rg hb _ _ | assumption | exact zb_rg _ | (constructor <;> omega)) (fun c1 => ?_) (fun c1 => ?_)
  · refine zF_iconst 22 dX12_layWeek_21 rfl ?_
    refine zF_istore_n 23 (ls' := [(1, zI 0), (0, zR hm)]) dX12_layWeek_22 rfl (by decide) rfl ?_
    refine zF_locs (ls' := [(1, zI ((0 : Nat) : Int)), (0, zR hm)]) ⟨zlI rfl (by first | rfl | omega | (push_cast; omega) | exact congrArg (_ + ·) (zbT (by assumption)) | exact congrArg (_ + ·) (zbF (by assumption)) | exact congrArg (_ + ·) (zbT (by omega)) | exact congrArg (_ + ·) (zbF (by omega)) | exact congrArg (_ + ·) (if_pos (by omega)).symm | exact congrArg (_ + ·) (if_neg (by omega)).symm | exact (if_pos (by omega)).symm | exact (if_neg (by omega)).symm), rfl, trivial⟩ ?_
    refine zF_while (X := Nat) (fun x => 7 - x) (fun x σ2 => x ≤ 7 ∧ zFr (fun y _ => y = A 7 ∨ y = A 8) σ σ2 ∧ LW N (x : Int) 0 0 (zia σ2 (A 7))) (fun x => [(1, zI ((x : Nat) : Int)), (0, zR hm)]) ?_ 0 σ1 (⟨by omega, fr1, LW_0 (fun j a b => z1 j a (by omega)) hV⟩)
    intro dd σ2 hI23 ih23
    show zF G mX12_layWeek (d + 7) 23 [(1, zI ((dd : Nat) : Int)), (0, zR hm)] [] σ2 _
    obtain ⟨hd, fr2, lw2⟩ := hI23
    have hM2 := zMo_fr hM fr2
    have hN2 : zia σ2 (A 0) = N := zFr_N hM hN fr2
    refine zF_iload_n 24 dX12_layWeek_23 rfl rfl ?_
    refine zF_bipush 26 dX12_layWeek_24 rfl (by decide) ?_
    refine zF_icmp_ge 95 29 dX12_layWeek_26 rfl rfl (by first | decide | exact hb _ | exact mSh_rg hb _ _ | assumption | exact zb_rg _ | (constructor <;> omega)) (by first | decide | exact hb _ | exact mSh_rg hb _ _ | assumption | exact zb_rg _ | (constructor <;> omega)) (fun c2 => ?_) (fun c2 => ?_)
    · exact zF_return dX12_layWeek_95 rfl (⟨rfl, fr2, LW_end (by omega) lw2⟩)
    · refine zF_iconst 30 dX12_layWeek_29 rfl ?_
      refine zF_istore_n 31 (ls' := [(2, zI 0), (1, zI ((dd : Nat) : Int)), (0, zR hm)]) dX12_layWeek_30 rfl (by decide) rfl ?_
      refine zF_locs (ls' := [(2, zI ((0 : Nat) : Int)), (1, zI ((dd : Nat) : Int)), (0, zR hm)]) ⟨zlI rfl (by first | rfl | omega | (push_cast; omega) | exact congrArg (_ + ·) (zbT (by assumption)) | exact congrArg (_ + ·) (zbF (by assumption)) | exact congrArg (_ + ·) (zbT (by omega)) | exact congrArg (_ + ·) (zbF (by omega)) | exact congrArg (_ + ·) (if_pos (by omega)).symm | exact congrArg (_ + ·) (if_neg (by omega)).symm | exact (if_pos (by omega)).symm | exact (if_neg (by omega)).symm), rfl, rfl, trivial⟩ ?_
      refine zF_while (X := Nat) (fun x => 10 - x) (fun x σ3 => x ≤ 10 ∧ zFr (fun y _ => y = A 7 ∨ y = A 8) σ σ3 ∧ zia σ3 (A 7) = zia σ2 (A 7) ∧ ∀ j : Int, 0 ≤ j → j < (x : Int) → zia σ3 (A 8) j = 0) (fun x => [(2, zI ((x : Nat) : Int)), (1, zI ((dd : Nat) : Int)), (0, zR hm)]) ?_ 0 σ2 (⟨by omega, fr2, rfl, fun j a b => absurd a (by omega)⟩)
      intro x3 σ3 hI31 ih31
      show zF G mX12_layWeek (d + 7) 31 [(2, zI ((x3 : Nat) : Int)), (1, zI ((dd : Nat) : Int)), (0, zR hm)] [] σ3 _
      obtain ⟨hx3, fr3, e37, z3⟩ := hI31
      have hM3 := zMo_fr hM fr3
      have hN3 : zia σ3 (A 0) = N := zFr_N hM hN fr3
      refine zF_iload_n 32 dX12_layWeek_31 rfl rfl ?_
      refine zF_bipush 34 dX12_layWeek_32 rfl (by decide) ?_
      refine zF_icmp_ge 50 37 dX12_layWeek_34 rfl rfl (by first | decide | exact hb _ | exact mSh_rg hb _ _ | assumption | exact zb_rg _ | (constructor <;> omega)) (by first | decide | exact hb _ | exact mSh_rg hb _ _ | assumption | exact zb_rg _ | (constructor <;> omega)) (fun c3 => ?_) (fun c3 => ?_)
      · refine zF_iconst 51 dX12_layWeek_50 rfl ?_
        refine zF_istore_n 52 (ls' := [(2, zI 0), (1, zI ((dd : Nat) : Int)), (0, zR hm)]) dX12_layWeek_51 rfl (by decide) rfl ?_
        refine zF_locs (ls' := [(2, zI ((0 : Nat) : Int)), (1, zI ((dd : Nat) : Int)), (0, zR hm)]) ⟨zlI rfl (by first | rfl | omega | (push_cast; omega) | exact congrArg (_ + ·) (zbT (by assumption)) | exact congrArg (_ + ·) (zbF (by assumption)) | exact congrArg (_ + ·) (zbT (by omega)) | exact congrArg (_ + ·) (zbF (by omega)) | exact congrArg (_ + ·) (if_pos (by omega)).symm | exact congrArg (_ + ·) (if_neg (by omega)).symm | exact (if_pos (by omega)).symm | exact (if_neg (by omega)).symm), rfl, rfl, trivial⟩ ?_
        refine zF_while (X := Nat) (fun x => 4 - x) (fun x σ5 => x ≤ 4 ∧ zFr (fun y _ => y = A 7 ∨ y = A 8) σ σ5 ∧ LW N (dd : Int) (x : Int) 0 (zia σ5 (A 7)) ∧ LWs N (dd : Int) (x : Int) 0 (zia σ5 (A 8))) (fun x => [(2, zI ((x : Nat) : Int)), (1, zI ((dd : Nat) : Int)), (0, zR hm)]) ?_ 0 σ3 (⟨by omega, fr3, by rw [e37]; exact lw2, LWs_0 (fun j a b => z3 j a (by omega)) hV⟩)
        intro hh σ5 hI52 ih52
        show zF G mX12_layWeek (d + 7) 52 [(2, zI ((hh : Nat) : Int)), (1, zI ((dd : Nat) : Int)), (0, zR hm)] [] σ5 _
        obtain ⟨hxH, frH, lwH, lsH⟩ := hI52
        have fr5 := frH
        have hM5 := zMo_fr hM fr5
        have hN5 : zia σ5 (A 0) = N := zFr_N hM hN fr5
        refine zF_iload_n 53 dX12_layWeek_52 rfl rfl ?_
        refine zF_aload_n 54 dX12_layWeek_53 rfl rfl ?_
        refine zF_callVi 57 (d2 := (d + 6)) (as := []) dX12_layWeek_54 rfl kX12_105 iX12_houses (ci := 12) rfl eX12_houses (Nat.le_refl _) hM5.1 hM5.2.1 rfl rfl (Nat.le_of_ble_eq_true rfl) (zn_X12_houses hM5 hN5) ?_
        refine zF_icmp_ge 89 60 dX12_layWeek_57 rfl rfl (by first | decide | exact hb _ | exact mSh_rg hb _ _ | assumption | exact zb_rg _ | (constructor <;> omega)) (by first | decide | exact hb _ | exact mSh_rg hb _ _ | assumption | exact zb_rg _ | (constructor <;> omega)) (fun c4 => ?_) (fun c4 => ?_)
        · refine zF_iinc 92 (ls' := [(1, zI (((dd : Nat) : Int) + 1)), (2, zI ((hh : Nat) : Int)), (0, zR hm)]) dX12_layWeek_89 rfl rfl rfl (by decide) rfl ?_
          refine zF_goto 23 dX12_layWeek_92 rfl ?_
          exact zF_locs (ls' := [(1, zI (((dd + 1) : Nat) : Int)), (0, zR hm)]) ⟨zlI rfl (by first | rfl | omega | (push_cast; omega) | exact congrArg (_ + ·) (zbT (by assumption)) | exact congrArg (_ + ·) (zbF (by assumption)) | exact congrArg (_ + ·) (zbT (by omega)) | exact congrArg (_ + ·) (zbF (by omega)) | exact congrArg (_ + ·) (if_pos (by omega)).symm | exact congrArg (_ + ·) (if_neg (by omega)).symm | exact (if_pos (by omega)).symm | exact (if_neg (by omega)).symm), rfl, trivial⟩ (ih23 (dd + 1) _ (by omega) (⟨by omega, frH, LW_day hV hW (by omega) lwH⟩))
        · refine zF_iconst 61 dX12_layWeek_60 rfl ?_
          refine zF_istore_n 62 (ls' := [(3, zI 0), (2, zI ((hh : Nat) : Int)), (1, zI ((dd : Nat) : Int)), (0, zR hm)]) dX12_layWeek_61 rfl (by decide) rfl ?_
          refine zF_locs (ls' := [(3, zI ((0 : Nat) : Int)), (2, zI ((hh : Nat) : Int)), (1, zI ((dd : Nat) : Int)), (0, zR hm)]) ⟨zlI rfl (by first | rfl | omega | (push_cast; omega) | exact congrArg (_ + ·) (zbT (by assumption)) | exact congrArg (_ + ·) (zbF (by assumption)) | exact congrArg (_ + ·) (zbT (by omega)) | exact congrArg (_ + ·) (zbF (by omega)) | exact congrArg (_ + ·) (if_pos (by omega)).symm | exact congrArg (_ + ·) (if_neg (by omega)).symm | exact (if_pos (by omega)).symm | exact (if_neg (by omega)).symm), rfl, rfl, rfl, trivial⟩ ?_
          refine zF_while (X := Nat) (fun x => 6 - x) (fun x σ4 => x ≤ 6 ∧ zFr (fun y _ => y = A 7 ∨ y = A 8) σ σ4 ∧ LW N (dd : Int) (hh : Int) (x : Int) (zia σ4 (A 7)) ∧ LWs N (dd : Int) (hh : Int) (x : Int) (zia σ4 (A 8))) (fun x => [(3, zI ((x : Nat) : Int)), (2, zI ((hh : Nat) : Int)), (1, zI ((dd : Nat) : Int)), (0, zR hm)]) ?_ 0 σ5 (⟨by omega, frH, lwH, lsH⟩)
          intro ff σ4 hI62 ih62
          show zF G mX12_layWeek (d + 7) 62 [(3, zI ((ff : Nat) : Int)), (2, zI ((hh : Nat) : Int)), (1, zI ((dd : Nat) : Int)), (0, zR hm)] [] σ4 _
          obtain ⟨hxF, frF, lwF, lsF⟩ := hI62
          have fr4 := frF
          have hM4 := zMo_fr hM fr4
          have hN4 : zia σ4 (A 0) = N := zFr_N hM hN fr4
          refine zF_iload_n 63 dX12_layWeek_62 rfl rfl ?_
          refine zF_aload_n 64 dX12_layWeek_63 rfl rfl ?_
          refine zF_callVi 67 (d2 := (d + 6)) (as := []) dX12_layWeek_64 rfl kX12_116 iX12_films (ci := 12) rfl eX12_films (Nat.le_refl _) hM4.1 hM4.2.1 rfl rfl (Nat.le_of_ble_eq_true rfl) (zn_X12_films hM4 hN4) ?_
          refine zF_icmp_ge 83 70 dX12_layWeek_67 rfl rfl (by first | decide | exact hb _ | exact mSh_rg hb _ _ | assumption | exact zb_rg _ | (constructor <;> omega)) (by first | decide | exact hb _ | exact mSh_rg hb _ _ | assumption | exact zb_rg _ | (constructor <;> omega)) (fun c5 => ?_) (fun c5 => ?_)
          · refine zF_iinc 86 (ls' := [(2, zI (((hh : Nat) : Int) + 1)), (3, zI ((ff : Nat) : Int)), (1, zI ((dd : Nat) : Int)), (0, zR hm)]) dX12_layWeek_83 rfl rfl rfl (by decide) rfl ?_
            refine zF_goto 52 dX12_layWeek_86 rfl ?_
            exact zF_locs (ls' := [(2, zI (((hh + 1) : Nat) : Int)), (1, zI ((dd : Nat) : Int)), (0, zR hm)]) ⟨zlI rfl (by first | rfl | omega | (push_cast; omega) | exact congrArg (_ + ·) (zbT (by assumption)) | exact congrArg (_ + ·) (zbF (by assumption)) | exact congrArg (_ + ·) (zbT (by omega)) | exact congrArg (_ + ·) (zbF (by omega)) | exact congrArg (_ + ·) (if_pos (by omega)).symm | exact congrArg (_ + ·) (if_neg (by omega)).symm | exact (if_pos (by omega)).symm | exact (if_neg (by omega)).symm), rfl, rfl, trivial⟩ (ih52 (hh + 1) _ (by omega) (⟨by omega, frF, LW_house hV hW (by omega) lwF, LWs_house lsF⟩))
          · refine zF_aload_n 71 dX12_layWeek_70 rfl rfl ?_
            refine zF_iload_n 72 dX12_layWeek_71 rfl rfl ?_
            refine zF_iload_n 73 dX12_layWeek_72 rfl rfl ?_
            refine zF_iload_n 74 dX12_layWeek_73 rfl rfl ?_
            refine zF_callV 77 (d2 := (d + 6)) (as := [zI ((hh : Nat) : Int), zI ((ff : Nat) : Int), zI ((dd : Nat) : Int)]) dX12_layWeek_74 rfl kX12_167 iX12_layDay (ci := 12) rfl eX12_layDay (Nat.le_refl _) hM4.1 hM4.2.1 rfl rfl (Nat.le_of_ble_eq_true rfl) (zE.mono (zt_X12_layDay hM4 hN4 hV lsF.1 (LWs_z (by omega) lsF hV) (by first | decide | exact hb _ | exact mSh_rg hb _ _ | assumption | exact zb_rg _ | (constructor <;> omega)) (by omega) (by omega) (by omega) (by omega)) fun ro σa1 hh1 => ?_)
            obtain ⟨er1, fr1, p1⟩ := hh1
            subst er1
            refine ⟨fr1.1, ?_⟩
            show zF G mX12_layWeek (d + 7) 77 [(3, zI ((ff : Nat) : Int)), (2, zI ((hh : Nat) : Int)), (1, zI ((dd : Nat) : Int)), (0, zR hm)] [] σa1 _
            refine zF_iinc 80 (ls' := [(3, zI (((ff : Nat) : Int) + 1)), (2, zI ((hh : Nat) : Int)), (1, zI ((dd : Nat) : Int)), (0, zR hm)]) dX12_layWeek_77 rfl rfl rfl (by decide) rfl ?_
            refine zF_goto 62 dX12_layWeek_80 rfl ?_
            exact zF_locs (ls' := [(3, zI (((ff + 1) : Nat) : Int)), (2, zI ((hh : Nat) : Int)), (1, zI ((dd : Nat) : Int)), (0, zR hm)]) ⟨zlI rfl (by first | rfl | omega | (push_cast; omega) | exact congrArg (_ + ·) (zbT (by assumption)) | exact congrArg (_ + ·) (zbF (by assumption)) | exact congrArg (_ + ·) (zbT (by omega)) | exact congrArg (_ + ·) (zbF (by omega)) | exact congrArg (_ + ·) (if_pos (by omega)).symm | exact congrArg (_ + ·) (if_neg (by omega)).symm | exact (if_pos (by omega)).symm | exact (if_neg (by omega)).symm), rfl, rfl, rfl, trivial⟩ (ih62 (ff + 1) _ (by omega) (⟨by omega, frF.tr fr1, LW_film hV (by omega) lwF p1 (by omega) (by omega), LWs_film hV (by omega) lsF p1⟩))
      · refine zF_aload_n 38 dX12_layWeek_37 rfl rfl ?_
        refine zF_getR 41 dX12_layWeek_38 rfl gX12_25 hM3.1 hM3.2.1 (zM_8 hM3).1 ?_
        refine zF_iload_n 42 dX12_layWeek_41 rfl rfl ?_
        refine zF_iconst 43 dX12_layWeek_42 rfl ?_
        refine zF_zastore 44 dX12_layWeek_43 rfl (zM_8 hM3).2.2 (zM_8 hM3).2.1 (by omega) (by omega) (by omega) ?_
        refine zF_iinc 47 (ls' := [(2, zI (((x3 : Nat) : Int) + 1)), (1, zI ((dd : Nat) : Int)), (0, zR hm)]) dX12_layWeek_44 rfl rfl rfl (by decide) rfl ?_
        refine zF_goto 31 dX12_layWeek_47 rfl ?_
        exact zF_locs (ls' := [(2, zI (((x3 + 1) : Nat) : Int)), (1, zI ((dd : Nat) : Int)), (0, zR hm)]) ⟨zlI rfl (by first | rfl | omega | (push_cast; omega) | exact congrArg (_ + ·) (zbT (by assumption)) | exact congrArg (_ + ·) (zbF (by assumption)) | exact congrArg (_ + ·) (zbT (by omega)) | exact congrArg (_ + ·) (zbF (by omega)) | exact congrArg (_ + ·) (if_pos (by omega)).symm | exact congrArg (_ + ·) (if_neg (by omega)).symm | exact (if_pos (by omega)).symm | exact (if_neg (by omega)).symm), rfl, rfl, trivial⟩ (ih31 (x3 + 1) _ (by omega) (⟨by omega, zFr_si (Or.inr rfl) fr3, (zsi_at h87.symm rfl).trans e37, fun j a b => by
            rw [zia_si]
            by_cases q : j = (x3 : Int)
            · rw [if_pos ⟨rfl, q⟩]
            · rw [if_neg (fun z => q z.2), z3 j a (by omega)]⟩))
  · refine zF_aload_n 9 dX12_layWeek_8 rfl rfl ?_
    refine zF_getR 12 dX12_layWeek_9 rfl gX12_22 hM1.1 hM1.2.1 (zM_7 hM1).1 ?_
    refine zF_iload_n 13 dX12_layWeek_12 rfl rfl ?_
    refine zF_iconst 14 dX12_layWeek_13 rfl ?_
    refine zF_iastore 15 dX12_layWeek_14 rfl (zM_7 hM1).2.2 (zM_7 hM1).2.1 (by omega) (by omega) ?_
    refine zF_iinc 18 (ls' := [(1, zI (((x : Nat) : Int) + 1)), (0, zR hm)]) dX12_layWeek_15 rfl rfl rfl (by decide) rfl ?_
    refine zF_goto 2 dX12_layWeek_18 rfl ?_
    exact zF_locs (ls' := [(1, zI (((x + 1) : Nat) : Int)), (0, zR hm)]) ⟨zlI rfl (by first | rfl | omega | (push_cast; omega) | exact congrArg (_ + ·) (zbT (by assumption)) | exact congrArg (_ + ·) (zbF (by assumption)) | exact congrArg (_ + ·) (zbT (by omega)) | exact congrArg (_ + ·) (zbF (by omega)) | exact congrArg (_ + ·) (if_pos (by omega)).symm | exact congrArg (_ + ·) (if_neg (by omega)).symm | exact (if_pos (by omega)).symm | exact (if_neg (by omega)).symm), rfl, trivial⟩ (ih2 (x + 1) _ (by omega) (⟨by omega, zFr_si (Or.inl rfl) fr1, fun j a b => by
          rw [zia_si]
          by_cases q : j = (x : Int)
          · rw [if_pos ⟨rfl, q⟩]
          · rw [if_neg (fun z => q z.2), z1 j a (by omega)]⟩))
end ZT

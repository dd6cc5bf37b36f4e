/-! the chart falls; the class's searches, asked by the law -/
section ZQ2
variable {G : zG} {M : zMeth} {d pc : Nat} {ls : List (Nat × zV)} {st : List zV} {σ σ1 : zMem} {Q : zRes → zMem → Prop} {E : Nat → Nat} {N : Int → Int} {T : Int} {as : List zV}
theorem cK_sc (k : cK T N σ) (f : zFr (cSc B0) σ σ1) : cK T N σ1 := ⟨k.1.fr f, cR_sc k.1.cM f k.2.1, k.2.2.1, (f.2.2.2.2.2 _ _ (fun z => z.2 ⟨rfl, rfl⟩)).trans k.2.2.2⟩
theorem cop_0 {k v : Int} (h : zE G M d as σ (cop k v B0 σ)) (hk : k = 0) : zE G M d as σ (fun ro σ1 => ro = .inl (some (zI v)) ∧ zFr (cSc B0) σ σ1) := h.mono fun ro σ1 z => by
  rcases z with ⟨_, e1, e2⟩ | ⟨c, _⟩ | ⟨c, _⟩
  · exact ⟨e1, e2⟩
  · omega
  · omega
theorem qL_chart {p : Int} (hG : zGd G) (k : cK T N σ) (p0 : 0 ≤ p) (p1 : p < N 2) : zE G mX11_chart (d + 8) [zR (B0 0), zI p] σ (fun ro σ1 => ro = .inl (some (zI (mCh N p))) ∧ zFr (cSc B0) σ σ1) := by
  have := k.V.n
  exact cop_0 (zt_X11_chart hG k.1.cO k.2.1 k.V k.W k.X k.mq (by constructor <;> omega)) (by rw [if_pos ⟨p0, p1⟩])
theorem qL_bestGain {p : Int} (hG : zGd G) (k : cK T N σ) (p0 : 0 ≤ p) (p1 : p < N 0) : zE G mX11_bestGain (d + 8) [zR (B0 0), zI p] σ (fun ro σ1 => ro = .inl (some (zI (bG N p (lmP N p)))) ∧ zFr (cSc B0) σ σ1) := by
  have := k.V.n
  exact cop_0 (zt_X11_bestGain hG k.1.cO k.2.1 k.V k.1.cPr k.2.2.2 k.mq (by constructor <;> omega)) (by rw [if_pos ⟨p0, p1⟩])
theorem qL_bestFilm {p : Int} (hG : zGd G) (k : cK T N σ) (p0 : 0 ≤ p) (p1 : p < N 1) : zE G mX11_bestFilm (d + 8) [zR (B0 0), zI p] σ (fun ro σ1 => ro = .inl (some (zI (bfV N p))) ∧ zFr (cSc B0) σ σ1) := by
  have := k.V.n
  exact cop_0 (zt_X11_bestFilm hG k.1.cO k.2.1 k.V k.1.cPr k.2.2.2 k.W k.mq (by constructor <;> omega)) (by rw [if_pos ⟨p0, p1⟩])
theorem mAh_ah {a b : Nat} {n : Nat} (hb : b < n) (h : mRk N a < mRk N b ∨ (mRk N b = mRk N a ∧ (b : Int) < a)) : mAh N b n + 1 ≤ mAh N a n := by
  have e1 : zsum (fun o => if (b : Int) = o then (1 : Int) else 0) n = 1 := zsum_hit (by omega) (by omega)
  have e2 := zsum_add (fun o => zb (mRk N b < mRk N o ∨ (mRk N o = mRk N b ∧ o < (b : Int)))) (fun o => if (b : Int) = o then (1 : Int) else 0) n
  have e3 : zsum (fun o => zb (mRk N b < mRk N o ∨ (mRk N o = mRk N b ∧ o < (b : Int))) + (if (b : Int) = o then (1 : Int) else 0)) n ≤ zsum (fun o => zb (mRk N a < mRk N o ∨ (mRk N o = mRk N a ∧ o < (a : Int)))) n := zsum_mono fun i hi => by
    by_cases c : (b : Int) = (i : Int)
    · have c2 : b = i := by omega
      subst c2
      show zb (mRk N b < mRk N b ∨ (mRk N b = mRk N b ∧ (b : Int) < (b : Int))) + (if (b : Int) = (b : Int) then (1 : Int) else 0) ≤ _
      rw [if_pos rfl, ← zbF (p := mRk N b < mRk N b ∨ (mRk N b = mRk N b ∧ (b : Int) < (b : Int))) (by omega), ← zbT h]
      decide
    · show zb _ + (if (b : Int) = (i : Int) then (1 : Int) else 0) ≤ _
      rw [if_neg c]
      by_cases q : mRk N b < mRk N i ∨ (mRk N i = mRk N b ∧ (i : Int) < (b : Int))
      · rw [← zbT q, ← zbT (p := mRk N a < mRk N i ∨ (mRk N i = mRk N a ∧ (i : Int) < (a : Int))) (by omega)]
        decide
      · rw [← zbF q]
        have := zb_ge (mRk N a < mRk N i ∨ (mRk N i = mRk N a ∧ (i : Int) < (a : Int)))
        omega
  unfold mAh
  omega
theorem mCh_p (hV : mV N) {p : Int} (h0 : 0 ≤ p) (h1 : p < N 2) : ∃ f : Nat, mCh N p = f ∧ f < nF N ∧ mAh N f (nF N) = p := by
  obtain ⟨f, hf, e⟩ := mCh_some hV h0 h1
  obtain ⟨g, hg, eg, hl⟩ := zleast (n := nF N) (S := fun o => mAh N o (nF N) = p) (r := fun _ => 0) ⟨f, hf, e⟩
  refine ⟨g, mChN_at hg (fun o ho z => ?_) eg, hg, eg⟩
  exact hl o (by omega) z (Or.inr ⟨rfl, ho⟩)
/-- the chart falls -/
theorem mCh_fall (hV : mV N) {k : Int} (k0 : 1 ≤ k) (k1 : k < N 2) : 0 ≤ mCh N (k - 1) ∧ mCh N (k - 1) < N 2 ∧ 0 ≤ mCh N k ∧ mCh N k < N 2 ∧ ¬ (mRk N (mCh N (k - 1)) < mRk N (mCh N k)) ∧ ¬ (mRk N (mCh N (k - 1)) = mRk N (mCh N k) ∧ mCh N k < mCh N (k - 1)) := by
  have hn := hV.n
  have nf : (nF N : Int) = N 2 := by unfold nF; omega
  obtain ⟨a, ea, ha, qa⟩ := mCh_p hV (p := k - 1) (by omega) (by omega)
  obtain ⟨b, eb, hb, qb⟩ := mCh_p hV (p := k) (by omega) (by omega)
  rw [ea, eb]
  refine ⟨by omega, by omega, by omega, by omega, fun z => ?_, fun z => ?_⟩
  · have := mAh_ah hb (Or.inl z); omega
  · have := mAh_ah (N := N) (a := a) hb (Or.inr ⟨z.1.symm, z.2⟩); omega
set_option maxRecDepth 20000 in
theorem zt_L_areRanked  (hGd : zGd G) (hK : cK T N σ) : zE G mL_areRanked (d + 9) [zR (B0 0)] σ (fun ro σ1 => ro = .inl (some (zI 1)) ∧ zFr (cSc B0) σ σ1) := by
  refine zE_of rfl (by simp [zcat]) (Nat.le_of_ble_eq_true rfl) ?_
  show zF G mL_areRanked (d + 9) 0 [(0, zR (B0 0))] [] σ _
  have hn := hK.V.n
  refine zF_iconst 1 dL_areRanked_0 rfl ?_
  refine zF_istore_n 2 (ls' := [(1, zI 1), (0, zR (B0 0))]) dL_areRanked_1 rfl (by decide) rfl ?_
  refine zF_locs (ls' := [(1, zI ((0 + 1 : Nat) : Int)), (0, zR (B0 0))]) ⟨zlI rfl (by first | rfl | omega | (push_cast; omega) | exact congrArg (_ + ·) (zbT (by assumption)) | exact congrArg (_ + ·) (zbF (by assumption)) | exact congrArg (_ + ·) (zbT (by omega)) | exact congrArg (_ + ·) (zbF (by omega)) | exact congrArg (_ + ·) (if_pos (by omega)).symm | exact congrArg (_ + ·) (if_neg (by omega)).symm | exact (if_pos (by omega)).symm | exact (if_neg (by omega)).symm | exact zsub_s (if_pos (by omega)).symm | exact zsub_s0 (if_neg (by omega)).symm | exact zadd0 (if_neg (by omega)).symm | exact zadd0 (zbF (by omega)) | exact (Int.sub_zero _).symm), rfl, trivial⟩ ?_
  refine zF_while (X := Nat) (fun x => (N 2).toNat - x) (fun x σ2 => ((x : Nat) : Int) ≤ N 2 ∧ cK T N σ2 ∧ zFr (cSc B0) σ σ2) (fun x => [(1, zI ((x + 1 : Nat) : Int)), (0, zR (B0 0))]) ?_ 0 σ (⟨by omega, hK, zFr.rf⟩)
  intro x σ2 hI2 ih2
  show zF G mL_areRanked (d + 9) 2 [(1, zI ((x + 1 : Nat) : Int)), (0, zR (B0 0))] [] σ2 _
  obtain ⟨hx2, K2, F2⟩ := hI2
  refine zF_iload_n 3 dL_areRanked_2 rfl rfl ?_
  refine zF_aload_n 4 dL_areRanked_3 rfl rfl ?_
  refine zF_iconst 5 dL_areRanked_4 rfl ?_
  refine zF_callVi 8 (d2 := (d + 8)) (as := [zI 2]) dL_areRanked_5 rfl kL_110 iX11_size (ci := 11) rfl eX11_size (Nat.le_refl _) K2.1.bk K2.1.bl rfl rfl (Nat.le_of_ble_eq_true rfl) ((show zP1 G mX11_size _ _ σ2 (N 2) from qL_size (d := d + 0) hGd K2 (by omega) (by omega))) ?_
  refine zF_icmp_ge 81 11 dL_areRanked_8 rfl rfl (by first | decide | assumption | (constructor <;> omega)) (by first | decide | assumption | (constructor <;> omega)) (fun c1 => ?_) (fun c1 => ?_)
  · refine zF_iconst 82 dL_areRanked_81 rfl ?_
    exact zF_zreturn dL_areRanked_82 rfl (by decide) (⟨rfl, F2⟩)
  · refine zF_aload_n 12 dL_areRanked_11 rfl rfl ?_
    refine zF_iload_n 13 dL_areRanked_12 rfl rfl ?_
    refine zF_iconst 14 dL_areRanked_13 rfl ?_
    refine zF_isub 15 dL_areRanked_14 rfl ?_
    refine zF_callV 18 (d2 := (d + 8)) (as := [zI (((x + 1 : Nat) : Int) - 1)]) dL_areRanked_15 rfl kL_207 iX11_chart (ci := 11) rfl eX11_chart (Nat.le_refl _) K2.1.bk K2.1.bl rfl rfl (Nat.le_of_ble_eq_true rfl) (zE.mono (qL_chart (d := d + 0) hGd K2 (by omega) (by omega)) fun ro σs15 hh15 => ?_)
    obtain ⟨er15, fr15⟩ := hh15
    subst er15
    refine ⟨fr15.1, ?_⟩
    have K15 := cK_sc K2 fr15
    have F15 := F2.tr fr15
    show zF G mL_areRanked (d + 9) 18 [(1, zI ((x + 1 : Nat) : Int)), (0, zR (B0 0))] [zI (mCh N (((x + 1 : Nat) : Int) - 1))] σs15 _
    refine zF_istore_n 19 (ls' := [(2, zI (mCh N (((x + 1 : Nat) : Int) - 1))), (1, zI ((x + 1 : Nat) : Int)), (0, zR (B0 0))]) dL_areRanked_18 rfl (by decide) rfl ?_
    refine zF_aload_n 20 dL_areRanked_19 rfl rfl ?_
    refine zF_iload_n 21 dL_areRanked_20 rfl rfl ?_
    refine zF_callV 24 (d2 := (d + 8)) (as := [zI ((x + 1 : Nat) : Int)]) dL_areRanked_21 rfl kL_207 iX11_chart (ci := 11) rfl eX11_chart (Nat.le_refl _) K15.1.bk K15.1.bl rfl rfl (Nat.le_of_ble_eq_true rfl) (zE.mono (qL_chart (d := d + 0) hGd K15 (by omega) (by omega)) fun ro σs21 hh21 => ?_)
    obtain ⟨er21, fr21⟩ := hh21
    subst er21
    refine ⟨fr21.1, ?_⟩
    have K21 := cK_sc K15 fr21
    have F21 := F15.tr fr21
    show zF G mL_areRanked (d + 9) 24 [(2, zI (mCh N (((x + 1 : Nat) : Int) - 1))), (1, zI ((x + 1 : Nat) : Int)), (0, zR (B0 0))] [zI (mCh N ((x + 1 : Nat) : Int))] σs21 _
    refine zF_istore_n 25 (ls' := [(3, zI (mCh N ((x + 1 : Nat) : Int))), (2, zI (mCh N (((x + 1 : Nat) : Int) - 1))), (1, zI ((x + 1 : Nat) : Int)), (0, zR (B0 0))]) dL_areRanked_24 rfl (by decide) rfl ?_
    obtain ⟨a0, a1, b0, b1, nlt, neq⟩ := mCh_fall hK.V (k := ((x + 1 : Nat) : Int)) (by omega) (by omega)
    unfold mRk at nlt neq
    have ca := cFt_b hK.V hK.W (f := mCh N (((x + 1 : Nat) : Int) - 1)) a0
    have cb := cFt_b hK.V hK.W (f := mCh N ((x + 1 : Nat) : Int)) b0
    have ta := hK.mq.t _ a0 (by omega)
    have tb := hK.mq.t _ b0 (by omega)
    refine zF_aload_n 26 dL_areRanked_25 rfl rfl ?_
    refine zF_iload_n 27 dL_areRanked_26 rfl rfl ?_
    refine zF_bipush 29 dL_areRanked_27 rfl (by decide) ?_
    refine zF_callVi 32 (d2 := (d + 8)) (as := [zI (mCh N (((x + 1 : Nat) : Int) - 1)), zI 6]) dL_areRanked_29 rfl kL_120 iX11_film (ci := 11) rfl eX11_film (Nat.le_refl _) K21.1.bk K21.1.bl rfl rfl (Nat.le_of_ble_eq_true rfl) ((show zP1 G mX11_film _ _ σs21 (cFt N (mCh N (((x + 1 : Nat) : Int) - 1))) from qL_film (d := d + 0) hGd K21 (by omega) (by omega) (by omega) (by omega))) ?_
    refine zF_aload_n 33 dL_areRanked_32 rfl rfl ?_
    refine zF_iload_n 34 dL_areRanked_33 rfl rfl ?_
    refine zF_bipush 36 dL_areRanked_34 rfl (by decide) ?_
    refine zF_callVi 39 (d2 := (d + 8)) (as := [zI (mCh N (((x + 1 : Nat) : Int) - 1)), zI 7]) dL_areRanked_36 rfl kL_120 iX11_film (ci := 11) rfl eX11_film (Nat.le_refl _) K21.1.bk K21.1.bl rfl rfl (Nat.le_of_ble_eq_true rfl) ((show zP1 G mX11_film _ _ σs21 (mF N (mCh N (((x + 1 : Nat) : Int) - 1)) 9) from qL_film (d := d + 0) hGd K21 (by omega) (by omega) (by omega) (by omega))) ?_
    refine zF_iadd 40 dL_areRanked_39 rfl ?_
    refine zF_aload_n 41 dL_areRanked_40 rfl rfl ?_
    refine zF_iload_n 42 dL_areRanked_41 rfl rfl ?_
    refine zF_bipush 44 dL_areRanked_42 rfl (by decide) ?_
    refine zF_callVi 47 (d2 := (d + 8)) (as := [zI (mCh N ((x + 1 : Nat) : Int)), zI 6]) dL_areRanked_44 rfl kL_120 iX11_film (ci := 11) rfl eX11_film (Nat.le_refl _) K21.1.bk K21.1.bl rfl rfl (Nat.le_of_ble_eq_true rfl) ((show zP1 G mX11_film _ _ σs21 (cFt N (mCh N ((x + 1 : Nat) : Int))) from qL_film (d := d + 0) hGd K21 (by omega) (by omega) (by omega) (by omega))) ?_
    refine zF_isub 48 dL_areRanked_47 rfl ?_
    refine zF_aload_n 49 dL_areRanked_48 rfl rfl ?_
    refine zF_iload_n 50 dL_areRanked_49 rfl rfl ?_
    refine zF_bipush 52 dL_areRanked_50 rfl (by decide) ?_
    refine zF_callVi 55 (d2 := (d + 8)) (as := [zI (mCh N ((x + 1 : Nat) : Int)), zI 7]) dL_areRanked_52 rfl kL_120 iX11_film (ci := 11) rfl eX11_film (Nat.le_refl _) K21.1.bk K21.1.bl rfl rfl (Nat.le_of_ble_eq_true rfl) ((show zP1 G mX11_film _ _ σs21 (mF N (mCh N ((x + 1 : Nat) : Int)) 9) from qL_film (d := d + 0) hGd K21 (by omega) (by omega) (by omega) (by omega))) ?_
    refine zF_isub 56 dL_areRanked_55 rfl ?_
    refine zF_istore 58 (ls' := [(4, zI ((((cFt N (mCh N (((x + 1 : Nat) : Int) - 1))) + (mF N (mCh N (((x + 1 : Nat) : Int) - 1)) 9)) - (cFt N (mCh N ((x + 1 : Nat) : Int)))) - (mF N (mCh N ((x + 1 : Nat) : Int)) 9))), (3, zI (mCh N ((x + 1 : Nat) : Int))), (2, zI (mCh N (((x + 1 : Nat) : Int) - 1))), (1, zI ((x + 1 : Nat) : Int)), (0, zR (B0 0))]) dL_areRanked_56 rfl (by decide) rfl ?_
    refine zF_iload 60 dL_areRanked_58 rfl rfl ?_
    refine zF_if_lt 73 63 dL_areRanked_60 rfl rfl (by first | decide | assumption | (constructor <;> omega)) (fun c2 => ?_) (fun c2 => ?_)
    · refine zF_iconst 74 dL_areRanked_73 rfl ?_
      exact zF_zreturn dL_areRanked_74 rfl (by decide) (by exfalso; omega)
    · refine zF_iload 65 dL_areRanked_63 rfl rfl ?_
      refine zF_if_ne 75 68 dL_areRanked_65 rfl rfl (by first | decide | assumption | (constructor <;> omega)) (fun c3 => ?_) (fun c3 => ?_)
      · refine zF_iinc 78 (ls' := [(1, zI (((x + 1 : Nat) : Int) + 1)), (4, zI ((((cFt N (mCh N (((x + 1 : Nat) : Int) - 1))) + (mF N (mCh N (((x + 1 : Nat) : Int) - 1)) 9)) - (cFt N (mCh N ((x + 1 : Nat) : Int)))) - (mF N (mCh N ((x + 1 : Nat) : Int)) 9))), (3, zI (mCh N ((x + 1 : Nat) : Int))), (2, zI (mCh N (((x + 1 : Nat) : Int) - 1))), (0, zR (B0 0))]) dL_areRanked_75 rfl rfl rfl (by decide) rfl ?_
        refine zF_goto 2 dL_areRanked_78 rfl ?_
        exact zF_locs (ls' := [(1, zI (((x + 1) + 1 : Nat) : Int)), (0, zR (B0 0))]) ⟨zlI rfl (by first | rfl | omega | (push_cast; omega) | exact congrArg (_ + ·) (zbT (by assumption)) | exact congrArg (_ + ·) (zbF (by assumption)) | exact congrArg (_ + ·) (zbT (by omega)) | exact congrArg (_ + ·) (zbF (by omega)) | exact congrArg (_ + ·) (if_pos (by omega)).symm | exact congrArg (_ + ·) (if_neg (by omega)).symm | exact (if_pos (by omega)).symm | exact (if_neg (by omega)).symm | exact zsub_s (if_pos (by omega)).symm | exact zsub_s0 (if_neg (by omega)).symm | exact zadd0 (if_neg (by omega)).symm | exact zadd0 (zbF (by omega)) | exact (Int.sub_zero _).symm), rfl, trivial⟩ (ih2 (x + 1) _ (by omega) (⟨by omega, K21, F21⟩))
      · refine zF_iload_n 69 dL_areRanked_68 rfl rfl ?_
        refine zF_iload_n 70 dL_areRanked_69 rfl rfl ?_
        refine zF_icmp_le 75 73 dL_areRanked_70 rfl rfl (by first | decide | assumption | (constructor <;> omega)) (by first | decide | assumption | (constructor <;> omega)) (fun c4 => ?_) (fun c4 => ?_)
        · refine zF_iinc 78 (ls' := [(1, zI (((x + 1 : Nat) : Int) + 1)), (4, zI ((((cFt N (mCh N (((x + 1 : Nat) : Int) - 1))) + (mF N (mCh N (((x + 1 : Nat) : Int) - 1)) 9)) - (cFt N (mCh N ((x + 1 : Nat) : Int)))) - (mF N (mCh N ((x + 1 : Nat) : Int)) 9))), (3, zI (mCh N ((x + 1 : Nat) : Int))), (2, zI (mCh N (((x + 1 : Nat) : Int) - 1))), (0, zR (B0 0))]) dL_areRanked_75 rfl rfl rfl (by decide) rfl ?_
          refine zF_goto 2 dL_areRanked_78 rfl ?_
          exact zF_locs (ls' := [(1, zI (((x + 1) + 1 : Nat) : Int)), (0, zR (B0 0))]) ⟨zlI rfl (by first | rfl | omega | (push_cast; omega) | exact congrArg (_ + ·) (zbT (by assumption)) | exact congrArg (_ + ·) (zbF (by assumption)) | exact congrArg (_ + ·) (zbT (by omega)) | exact congrArg (_ + ·) (zbF (by omega)) | exact congrArg (_ + ·) (if_pos (by omega)).symm | exact congrArg (_ + ·) (if_neg (by omega)).symm | exact (if_pos (by omega)).symm | exact (if_neg (by omega)).symm | exact zsub_s (if_pos (by omega)).symm | exact zsub_s0 (if_neg (by omega)).symm | exact zadd0 (if_neg (by omega)).symm | exact zadd0 (zbF (by omega)) | exact (Int.sub_zero _).symm), rfl, trivial⟩ (ih2 (x + 1) _ (by omega) (⟨by omega, K21, F21⟩))
        · refine zF_iconst 74 dL_areRanked_73 rfl ?_
          exact zF_zreturn dL_areRanked_74 rfl (by decide) (by exfalso; omega)
end ZQ2

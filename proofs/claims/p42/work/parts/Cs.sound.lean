/-! what the class answers, sound -/
section ZQ4
variable {G : zG} {M : zMeth} {d pc : Nat} {ls : List (Nat × zV)} {st : List zV} {σ σ1 : zMem} {Q : zRes → zMem → Prop} {E : Nat → Nat} {N : Int → Int} {T : Int} {as : List zV}
theorem zF_Iw2 {a b : Int} (kk : zF G M d pc ls (zI (w32 b) :: zI (w32 a) :: st) σ Q) : zF G M d pc ls (zI b :: zI a :: st) σ Q := by
  obtain ⟨r, σ', hq, hu, hS⟩ := kk
  refine ⟨r, σ', hq, hu, fun ρ p e R s m args below meth c hC H locs cells slots lsA hSt h1 h2 => ?_⟩
  have k := hS ρ p e R s m args below meth c hC H locs cells slots lsA hSt h1 h2
  have e1 : (zI (w32 b) :: zI (w32 a) :: st).map (ztr ρ) = (zI b :: zI a :: st).map (ztr ρ) := by
    show Value.int (Int32.ofInt (w32 b)) :: Value.int (Int32.ofInt (w32 a)) :: _ = Value.int (Int32.ofInt b) :: Value.int (Int32.ofInt a) :: _
    unfold w32
    rw [Int32.ofInt_toInt, Int32.ofInt_toInt]
  rw [e1] at k
  exact k
set_option maxRecDepth 20000 in
theorem zt_L_isSound  (hGd : zGd G) (hK : cK T N σ) : zE G mL_isSound (d + 10) [zR (B0 0)] σ (fun ro σ1 => ro = .inl (some (zI 1)) ∧ zFr (cSc B0) σ σ1) := by
  refine zE_of rfl (by simp [zcat]) (Nat.le_of_ble_eq_true rfl) ?_
  show zF G mL_isSound (d + 10) 0 [(0, zR (B0 0))] [] σ _
  have hn := hK.V.n
  have hs := nS_eq hK.V
  have hh := nH_eq hK.V
  have hf := nF_eq hK.V
  refine zF_iconst 1 dL_isSound_0 rfl ?_
  refine zF_istore_n 2 (ls' := [(1, zI 0), (0, zR (B0 0))]) dL_isSound_1 rfl (by decide) rfl ?_
  refine zF_iconst 3 dL_isSound_2 rfl ?_
  refine zF_istore_n 4 (ls' := [(2, zI 0), (1, zI 0), (0, zR (B0 0))]) dL_isSound_3 rfl (by decide) rfl ?_
  refine zF_locs (ls' := (fun (i1 : Nat) => [(2, zI (i1 : Int)), (1, zI (cAllN N i1)), (0, zR (B0 0))]) 0) ⟨zlI rfl (by first | rfl | omega | (push_cast; omega) | exact congrArg (_ + ·) (zbT (by assumption)) | exact congrArg (_ + ·) (zbF (by assumption)) | exact congrArg (_ + ·) (zbT (by omega)) | exact congrArg (_ + ·) (zbF (by omega)) | exact congrArg (_ + ·) (if_pos (by omega)).symm | exact congrArg (_ + ·) (if_neg (by omega)).symm | exact (if_pos (by omega)).symm | exact (if_neg (by omega)).symm | exact zsub_s (if_pos (by omega)).symm | exact zsub_s0 (if_neg (by omega)).symm | exact zadd0 (if_neg (by omega)).symm | exact zadd0 (zbF (by omega)) | exact (Int.sub_zero _).symm), zlI rfl (by first | rfl | omega | (push_cast; omega) | exact congrArg (_ + ·) (zbT (by assumption)) | exact congrArg (_ + ·) (zbF (by assumption)) | exact congrArg (_ + ·) (zbT (by omega)) | exact congrArg (_ + ·) (zbF (by omega)) | exact congrArg (_ + ·) (if_pos (by omega)).symm | exact congrArg (_ + ·) (if_neg (by omega)).symm | exact (if_pos (by omega)).symm | exact (if_neg (by omega)).symm | exact zsub_s (if_pos (by omega)).symm | exact zsub_s0 (if_neg (by omega)).symm | exact zadd0 (if_neg (by omega)).symm | exact zadd0 (zbF (by omega)) | exact (Int.sub_zero _).symm), rfl, trivial⟩ ?_
  refine zF_loop (n := (nS N)) (fun (i1 : Nat) => [(2, zI (i1 : Int)), (1, zI (cAllN N i1)), (0, zR (B0 0))]) (fun _ => σ) (fun i1 hi1 ih4 => ?_) ?_
  · show zF G mL_isSound (d + 10) 4 [(2, zI (i1 : Int)), (1, zI (cAllN N i1)), (0, zR (B0 0))] [] σ _
    refine zF_iload_n 5 dL_isSound_4 rfl rfl ?_
    refine zF_aload_n 6 dL_isSound_5 rfl rfl ?_
    refine zF_iconst 7 dL_isSound_6 rfl ?_
    refine zF_callVi 10 (d2 := (d + 9)) (as := [zI 1]) dL_isSound_7 rfl kL_110 iX11_size (ci := 11) rfl eX11_size (Nat.le_refl _) hK.1.bk hK.1.bl rfl rfl (Nat.le_of_ble_eq_true rfl) ((show zP1 G mX11_size _ _ σ (N 1) from qL_size (d := d + 1) hGd hK (by omega) (by omega))) ?_
    refine zF_icmp_ge 126 13 dL_isSound_10 rfl rfl (by first | decide | assumption | exact hK.V.b _ | exact w32_rg _ | (constructor <;> omega)) (by first | decide | assumption | exact hK.V.b _ | exact w32_rg _ | (constructor <;> omega)) (fun c1 => ?_) (fun c1 => ?_)
    · exact absurd c1 (by omega)
    · refine zF_iconst 14 dL_isSound_13 rfl ?_
      refine zF_istore_n 15 (ls' := [(3, zI 0), (2, zI (i1 : Int)), (1, zI (cAllN N i1)), (0, zR (B0 0))]) dL_isSound_14 rfl (by decide) rfl ?_
      refine zF_iconst 16 dL_isSound_15 rfl ?_
      refine zF_istore 18 (ls' := [(4, zI 0), (3, zI 0), (2, zI (i1 : Int)), (1, zI (cAllN N i1)), (0, zR (B0 0))]) dL_isSound_16 rfl (by decide) rfl ?_
      refine zF_locs (ls' := (fun (i2 : Nat) => [(4, zI (i2 : Int)), (3, zI (zsum (fun d => gv N i1 d) i2)), (2, zI (i1 : Int)), (1, zI (cAllN N i1)), (0, zR (B0 0))]) 0) ⟨zlI rfl (by first | rfl | omega | (push_cast; omega) | exact congrArg (_ + ·) (zbT (by assumption)) | exact congrArg (_ + ·) (zbF (by assumption)) | exact congrArg (_ + ·) (zbT (by omega)) | exact congrArg (_ + ·) (zbF (by omega)) | exact congrArg (_ + ·) (if_pos (by omega)).symm | exact congrArg (_ + ·) (if_neg (by omega)).symm | exact (if_pos (by omega)).symm | exact (if_neg (by omega)).symm | exact zsub_s (if_pos (by omega)).symm | exact zsub_s0 (if_neg (by omega)).symm | exact zadd0 (if_neg (by omega)).symm | exact zadd0 (zbF (by omega)) | exact (Int.sub_zero _).symm), zlI rfl (by first | rfl | omega | (push_cast; omega) | exact congrArg (_ + ·) (zbT (by assumption)) | exact congrArg (_ + ·) (zbF (by assumption)) | exact congrArg (_ + ·) (zbT (by omega)) | exact congrArg (_ + ·) (zbF (by omega)) | exact congrArg (_ + ·) (if_pos (by omega)).symm | exact congrArg (_ + ·) (if_neg (by omega)).symm | exact (if_pos (by omega)).symm | exact (if_neg (by omega)).symm | exact zsub_s (if_pos (by omega)).symm | exact zsub_s0 (if_neg (by omega)).symm | exact zadd0 (if_neg (by omega)).symm | exact zadd0 (zbF (by omega)) | exact (Int.sub_zero _).symm), rfl, rfl, rfl, trivial⟩ ?_
      refine zF_loop (n := 7) (fun (i2 : Nat) => [(4, zI (i2 : Int)), (3, zI (zsum (fun d => gv N i1 d) i2)), (2, zI (i1 : Int)), (1, zI (cAllN N i1)), (0, zR (B0 0))]) (fun _ => σ) (fun i2 hi2 ih18 => ?_) ?_
      · show zF G mL_isSound (d + 10) 18 [(4, zI (i2 : Int)), (3, zI (zsum (fun d => gv N i1 d) i2)), (2, zI (i1 : Int)), (1, zI (cAllN N i1)), (0, zR (B0 0))] [] σ _
        refine zF_iload 20 dL_isSound_18 rfl rfl ?_
        refine zF_bipush 22 dL_isSound_20 rfl (by decide) ?_
        refine zF_icmp_ge 85 25 dL_isSound_22 rfl rfl (by first | decide | assumption | exact hK.V.b _ | exact w32_rg _ | (constructor <;> omega)) (by first | decide | assumption | exact hK.V.b _ | exact w32_rg _ | (constructor <;> omega)) (fun c2 => ?_) (fun c2 => ?_)
        · exact absurd c2 (by omega)
        · refine zF_aload_n 26 dL_isSound_25 rfl rfl ?_
          refine zF_iload_n 27 dL_isSound_26 rfl rfl ?_
          refine zF_iload 29 dL_isSound_27 rfl rfl ?_
          refine zF_callVi 32 (d2 := (d + 9)) (as := [zI (i1 : Int), zI (i2 : Int)]) dL_isSound_29 rfl kL_194 iX11_visitors (ci := 11) rfl eX11_visitors (Nat.le_refl _) hK.1.bk hK.1.bl rfl rfl (Nat.le_of_ble_eq_true rfl) ((show zP1 G mX11_visitors _ _ σ (gv N (i1 : Int) (i2 : Int)) from qL_visitors (d := d + 1) hGd hK (by omega) (by omega) (by omega) (by omega))) ?_
          refine zF_istore 34 (ls' := [(5, zI (gv N (i1 : Int) (i2 : Int))), (4, zI (i2 : Int)), (3, zI (zsum (fun d => gv N i1 d) i2)), (2, zI (i1 : Int)), (1, zI (cAllN N i1)), (0, zR (B0 0))]) dL_isSound_32 rfl (by decide) rfl ?_
          have gvb := gv_cap hK.V (s := (i1 : Int)) (d := (i2 : Int)) (by omega) (by omega)
          have gv3 := gv_b hK.V (s := (i1 : Int)) (by omega) (by omega) (i2 : Int)
          have hcap : 0 ≤ mS N i1 1 * mS N i1 2 ∧ mS N i1 1 * mS N i1 2 ≤ 3000 := mCap_0 hK.V (by omega) (by omega)
          have shb := mSh_b hK.V (s := (i1 : Int)) (by omega) (by omega) (i2 : Int)
          refine zF_iload 36 dL_isSound_34 rfl rfl ?_
          refine zF_if_lt 72 39 dL_isSound_36 rfl rfl (by first | decide | assumption | exact hK.V.b _ | exact w32_rg _ | (constructor <;> omega)) (fun c3 => ?_) (fun c3 => ?_)
          · refine zF_iconst 73 dL_isSound_72 rfl ?_
            exact zF_zreturn dL_isSound_73 rfl (by decide) (by exfalso; omega)
          · refine zF_iload 41 dL_isSound_39 rfl rfl ?_
            refine zF_aload_n 42 dL_isSound_41 rfl rfl ?_
            refine zF_iload_n 43 dL_isSound_42 rfl rfl ?_
            refine zF_iconst 44 dL_isSound_43 rfl ?_
            refine zF_callVi 47 (d2 := (d + 9)) (as := [zI (i1 : Int), zI 1]) dL_isSound_44 rfl kL_108 iX11_screen (ci := 11) rfl eX11_screen (Nat.le_refl _) hK.1.bk hK.1.bl rfl rfl (Nat.le_of_ble_eq_true rfl) ((show zP1 G mX11_screen _ _ σ (mS N (i1 : Int) 1) from qL_screen (d := d + 1) hGd hK (by omega) (by omega) (by omega) (by omega))) ?_
            refine zF_aload_n 48 dL_isSound_47 rfl rfl ?_
            refine zF_iload_n 49 dL_isSound_48 rfl rfl ?_
            refine zF_iconst 50 dL_isSound_49 rfl ?_
            refine zF_callVi 53 (d2 := (d + 9)) (as := [zI (i1 : Int), zI 2]) dL_isSound_50 rfl kL_108 iX11_screen (ci := 11) rfl eX11_screen (Nat.le_refl _) hK.1.bk hK.1.bl rfl rfl (Nat.le_of_ble_eq_true rfl) ((show zP1 G mX11_screen _ _ σ (mS N (i1 : Int) 2) from qL_screen (d := d + 1) hGd hK (by omega) (by omega) (by omega) (by omega))) ?_
            refine zF_imul 54 dL_isSound_53 rfl ?_
            refine zF_icmp_gt 72 57 dL_isSound_54 rfl rfl (by first | decide | assumption | exact hK.V.b _ | exact w32_rg _ | (constructor <;> omega)) (by first | decide | assumption | exact hK.V.b _ | exact w32_rg _ | (constructor <;> omega)) (fun c4 => ?_) (fun c4 => ?_)
            · refine zF_iconst 73 dL_isSound_72 rfl ?_
              exact zF_zreturn dL_isSound_73 rfl (by decide) (by exfalso; omega)
            · refine zF_aload_n 58 dL_isSound_57 rfl rfl ?_
              refine zF_iload_n 59 dL_isSound_58 rfl rfl ?_
              refine zF_iload 61 dL_isSound_59 rfl rfl ?_
              refine zF_callVi 64 (d2 := (d + 9)) (as := [zI (i1 : Int), zI (i2 : Int)]) dL_isSound_61 rfl kL_197 iX11_shown (ci := 11) rfl eX11_shown (Nat.le_refl _) hK.1.bk hK.1.bl rfl rfl (Nat.le_of_ble_eq_true rfl) ((show zP1 G mX11_shown _ _ σ (mSh N (i1 : Int) (i2 : Int)) from qL_shown (d := d + 1) hGd hK (by omega) (by omega) (by omega) (by omega))) ?_
              refine zF_if_ge 74 67 dL_isSound_64 rfl rfl (by first | decide | assumption | exact hK.V.b _ | exact w32_rg _ | (constructor <;> omega)) (fun c5 => ?_) (fun c5 => ?_)
              · refine zF_iload_n 75 dL_isSound_74 rfl rfl ?_
                refine zF_iload 77 dL_isSound_75 rfl rfl ?_
                refine zF_iadd 78 dL_isSound_77 rfl ?_
                refine zF_istore_n 79 (ls' := [(3, zI ((zsum (fun d => gv N i1 d) i2) + (gv N (i1 : Int) (i2 : Int)))), (5, zI (gv N (i1 : Int) (i2 : Int))), (4, zI (i2 : Int)), (2, zI (i1 : Int)), (1, zI (cAllN N i1)), (0, zR (B0 0))]) dL_isSound_78 rfl (by decide) rfl ?_
                refine zF_iinc 82 (ls' := [(4, zI ((i2 : Int) + 1)), (3, zI ((zsum (fun d => gv N i1 d) i2) + (gv N (i1 : Int) (i2 : Int)))), (5, zI (gv N (i1 : Int) (i2 : Int))), (2, zI (i1 : Int)), (1, zI (cAllN N i1)), (0, zR (B0 0))]) dL_isSound_79 rfl rfl rfl (by decide) rfl ?_
                refine zF_goto 18 dL_isSound_82 rfl ?_
                exact zF_locs (ls' := [(4, zI ((i2 + 1 : Nat) : Int)), (3, zI (zsum (fun d => gv N i1 d) (i2 + 1))), (2, zI (i1 : Int)), (1, zI (cAllN N i1)), (0, zR (B0 0))]) ⟨zlI rfl (by first | rfl | omega | (push_cast; omega) | exact congrArg (_ + ·) (zbT (by assumption)) | exact congrArg (_ + ·) (zbF (by assumption)) | exact congrArg (_ + ·) (zbT (by omega)) | exact congrArg (_ + ·) (zbF (by omega)) | exact congrArg (_ + ·) (if_pos (by omega)).symm | exact congrArg (_ + ·) (if_neg (by omega)).symm | exact (if_pos (by omega)).symm | exact (if_neg (by omega)).symm | exact zsub_s (if_pos (by omega)).symm | exact zsub_s0 (if_neg (by omega)).symm | exact zadd0 (if_neg (by omega)).symm | exact zadd0 (zbF (by omega)) | exact (Int.sub_zero _).symm), zlI rfl (by first | rfl | omega | (push_cast; omega) | exact congrArg (_ + ·) (zbT (by assumption)) | exact congrArg (_ + ·) (zbF (by assumption)) | exact congrArg (_ + ·) (zbT (by omega)) | exact congrArg (_ + ·) (zbF (by omega)) | exact congrArg (_ + ·) (if_pos (by omega)).symm | exact congrArg (_ + ·) (if_neg (by omega)).symm | exact (if_pos (by omega)).symm | exact (if_neg (by omega)).symm | exact zsub_s (if_pos (by omega)).symm | exact zsub_s0 (if_neg (by omega)).symm | exact zadd0 (if_neg (by omega)).symm | exact zadd0 (zbF (by omega)) | exact (Int.sub_zero _).symm), rfl, rfl, rfl, trivial⟩ ih18
              · have g0 := gvb.2.2 (by omega)
                refine zF_iload 69 dL_isSound_67 rfl rfl ?_
                refine zF_if_eq 74 72 dL_isSound_69 rfl rfl (by first | decide | assumption | exact hK.V.b _ | exact w32_rg _ | (constructor <;> omega)) (fun c6 => ?_) (fun c6 => ?_)
                · refine zF_iload_n 75 dL_isSound_74 rfl rfl ?_
                  refine zF_iload 77 dL_isSound_75 rfl rfl ?_
                  refine zF_iadd 78 dL_isSound_77 rfl ?_
                  refine zF_istore_n 79 (ls' := [(3, zI ((zsum (fun d => gv N i1 d) i2) + (gv N (i1 : Int) (i2 : Int)))), (5, zI (gv N (i1 : Int) (i2 : Int))), (4, zI (i2 : Int)), (2, zI (i1 : Int)), (1, zI (cAllN N i1)), (0, zR (B0 0))]) dL_isSound_78 rfl (by decide) rfl ?_
                  refine zF_iinc 82 (ls' := [(4, zI ((i2 : Int) + 1)), (3, zI ((zsum (fun d => gv N i1 d) i2) + (gv N (i1 : Int) (i2 : Int)))), (5, zI (gv N (i1 : Int) (i2 : Int))), (2, zI (i1 : Int)), (1, zI (cAllN N i1)), (0, zR (B0 0))]) dL_isSound_79 rfl rfl rfl (by decide) rfl ?_
                  refine zF_goto 18 dL_isSound_82 rfl ?_
                  exact zF_locs (ls' := [(4, zI ((i2 + 1 : Nat) : Int)), (3, zI (zsum (fun d => gv N i1 d) (i2 + 1))), (2, zI (i1 : Int)), (1, zI (cAllN N i1)), (0, zR (B0 0))]) ⟨zlI rfl (by first | rfl | omega | (push_cast; omega) | exact congrArg (_ + ·) (zbT (by assumption)) | exact congrArg (_ + ·) (zbF (by assumption)) | exact congrArg (_ + ·) (zbT (by omega)) | exact congrArg (_ + ·) (zbF (by omega)) | exact congrArg (_ + ·) (if_pos (by omega)).symm | exact congrArg (_ + ·) (if_neg (by omega)).symm | exact (if_pos (by omega)).symm | exact (if_neg (by omega)).symm | exact zsub_s (if_pos (by omega)).symm | exact zsub_s0 (if_neg (by omega)).symm | exact zadd0 (if_neg (by omega)).symm | exact zadd0 (zbF (by omega)) | exact (Int.sub_zero _).symm), zlI rfl (by first | rfl | omega | (push_cast; omega) | exact congrArg (_ + ·) (zbT (by assumption)) | exact congrArg (_ + ·) (zbF (by assumption)) | exact congrArg (_ + ·) (zbT (by omega)) | exact congrArg (_ + ·) (zbF (by omega)) | exact congrArg (_ + ·) (if_pos (by omega)).symm | exact congrArg (_ + ·) (if_neg (by omega)).symm | exact (if_pos (by omega)).symm | exact (if_neg (by omega)).symm | exact zsub_s (if_pos (by omega)).symm | exact zsub_s0 (if_neg (by omega)).symm | exact zadd0 (if_neg (by omega)).symm | exact zadd0 (zbF (by omega)) | exact (Int.sub_zero _).symm), rfl, rfl, rfl, trivial⟩ ih18
                · refine zF_iconst 73 dL_isSound_72 rfl ?_
                  exact zF_zreturn dL_isSound_73 rfl (by decide) (by exfalso; omega)
      · show zF G mL_isSound (d + 10) 18 [(4, zI ((7 : Nat) : Int)), (3, zI (zsum (fun d => gv N i1 d) 7)), (2, zI (i1 : Int)), (1, zI (cAllN N i1)), (0, zR (B0 0))] [] σ _
        refine zF_iload 20 dL_isSound_18 rfl rfl ?_
        refine zF_bipush 22 dL_isSound_20 rfl (by decide) ?_
        refine zF_icmp_ge 85 25 dL_isSound_22 rfl rfl (by first | decide | assumption | exact hK.V.b _ | exact w32_rg _ | (constructor <;> omega)) (by first | decide | assumption | exact hK.V.b _ | exact w32_rg _ | (constructor <;> omega)) (fun c7 => ?_) (fun c7 => ?_)
        · refine zF_iload_n 86 dL_isSound_85 rfl rfl ?_
          refine zF_aload_n 87 dL_isSound_86 rfl rfl ?_
          refine zF_aload_n 88 dL_isSound_87 rfl rfl ?_
          have hw := hK.W (i1 : Int) (by omega) (by omega)
          have hv := hK.V.s (i1 : Int) (by omega) (by omega)
          refine zF_iload_n 89 dL_isSound_88 rfl rfl ?_
          refine zF_iconst 90 dL_isSound_89 rfl ?_
          refine zF_callVi 93 (d2 := (d + 9)) (as := [zI (i1 : Int), zI 0]) dL_isSound_90 rfl kL_108 iX11_screen (ci := 11) rfl eX11_screen (Nat.le_refl _) hK.1.bk hK.1.bl rfl rfl (Nat.le_of_ble_eq_true rfl) ((show zP1 G mX11_screen _ _ σ (mS N (i1 : Int) 0) from qL_screen (d := d + 1) hGd hK (by omega) (by omega) (by omega) (by omega))) ?_
          refine zF_iconst 94 dL_isSound_93 rfl ?_
          refine zF_callVi 97 (d2 := (d + 9)) (as := [zI (mS N (i1 : Int) 0), zI 0]) dL_isSound_94 rfl kL_113 iX11_house (ci := 11) rfl eX11_house (Nat.le_refl _) hK.1.bk hK.1.bl rfl rfl (Nat.le_of_ble_eq_true rfl) ((show zP1 G mX11_house _ _ σ (mH N (mS N (i1 : Int) 0) 0) from qL_house (d := d + 1) hGd hK (by omega) (by omega) (by omega) (by omega))) ?_
          refine zF_imul 98 dL_isSound_97 rfl ?_
          refine zF_aload_n 99 dL_isSound_98 rfl rfl ?_
          refine zF_iload_n 100 dL_isSound_99 rfl rfl ?_
          refine zF_bipush 102 dL_isSound_100 rfl (by decide) ?_
          refine zF_callVi 105 (d2 := (d + 9)) (as := [zI (i1 : Int), zI 8]) dL_isSound_102 rfl kL_108 iX11_screen (ci := 11) rfl eX11_screen (Nat.le_refl _) hK.1.bk hK.1.bl rfl rfl (Nat.le_of_ble_eq_true rfl) ((show zP1 G mX11_screen _ _ σ (cTake N (i1 : Int)) from qL_screen (d := d + 1) hGd hK (by omega) (by omega) (by omega) (by omega))) ?_
          rw [cTake_e]
          have ctb := cTake_b hK.V (s := (i1 : Int)) (by omega) (by omega)
          refine zF_icmp_eq 110 108 dL_isSound_105 rfl rfl (by first | decide | assumption | exact hK.V.b _ | exact w32_rg _ | (constructor <;> omega)) (by first | decide | assumption | exact hK.V.b _ | exact w32_rg _ | (constructor <;> omega)) (fun c8 => ?_) (fun c8 => ?_)
          · refine zF_iload_n 111 dL_isSound_110 rfl rfl ?_
            refine zF_aload_n 112 dL_isSound_111 rfl rfl ?_
            refine zF_iload_n 113 dL_isSound_112 rfl rfl ?_
            refine zF_bipush 115 dL_isSound_113 rfl (by decide) ?_
            refine zF_callVi 118 (d2 := (d + 9)) (as := [zI (i1 : Int), zI 8]) dL_isSound_115 rfl kL_108 iX11_screen (ci := 11) rfl eX11_screen (Nat.le_refl _) hK.1.bk hK.1.bl rfl rfl (Nat.le_of_ble_eq_true rfl) ((show zP1 G mX11_screen _ _ σ (cTake N (i1 : Int)) from qL_screen (d := d + 1) hGd hK (by omega) (by omega) (by omega) (by omega))) ?_
            refine zF_iadd 119 dL_isSound_118 rfl ?_
            refine zF_istore_n 120 (ls' := [(1, zI ((cAllN N i1) + (cTake N (i1 : Int)))), (4, zI ((7 : Nat) : Int)), (3, zI (zsum (fun d => gv N i1 d) 7)), (2, zI (i1 : Int)), (0, zR (B0 0))]) dL_isSound_119 rfl (by decide) rfl ?_
            refine zF_iinc 123 (ls' := [(2, zI ((i1 : Int) + 1)), (1, zI ((cAllN N i1) + (cTake N (i1 : Int)))), (4, zI ((7 : Nat) : Int)), (3, zI (zsum (fun d => gv N i1 d) 7)), (0, zR (B0 0))]) dL_isSound_120 rfl rfl rfl (by decide) rfl ?_
            refine zF_goto 4 dL_isSound_123 rfl ?_
            exact zF_locs (ls' := [(2, zI ((i1 + 1 : Nat) : Int)), (1, zI (cAllN N (i1 + 1))), (0, zR (B0 0))]) ⟨zlI rfl (by first | rfl | omega | (push_cast; omega) | exact congrArg (_ + ·) (zbT (by assumption)) | exact congrArg (_ + ·) (zbF (by assumption)) | exact congrArg (_ + ·) (zbT (by omega)) | exact congrArg (_ + ·) (zbF (by omega)) | exact congrArg (_ + ·) (if_pos (by omega)).symm | exact congrArg (_ + ·) (if_neg (by omega)).symm | exact (if_pos (by omega)).symm | exact (if_neg (by omega)).symm | exact zsub_s (if_pos (by omega)).symm | exact zsub_s0 (if_neg (by omega)).symm | exact zadd0 (if_neg (by omega)).symm | exact zadd0 (zbF (by omega)) | exact (Int.sub_zero _).symm), zlI rfl (by first | rfl | omega | (push_cast; omega) | exact congrArg (_ + ·) (zbT (by assumption)) | exact congrArg (_ + ·) (zbF (by assumption)) | exact congrArg (_ + ·) (zbT (by omega)) | exact congrArg (_ + ·) (zbF (by omega)) | exact congrArg (_ + ·) (if_pos (by omega)).symm | exact congrArg (_ + ·) (if_neg (by omega)).symm | exact (if_pos (by omega)).symm | exact (if_neg (by omega)).symm | exact zsub_s (if_pos (by omega)).symm | exact zsub_s0 (if_neg (by omega)).symm | exact zadd0 (if_neg (by omega)).symm | exact zadd0 (zbF (by omega)) | exact (Int.sub_zero _).symm), rfl, trivial⟩ ih4
          · refine zF_iconst 109 dL_isSound_108 rfl ?_
            exact zF_zreturn dL_isSound_109 rfl (by decide) (by exfalso; omega)
        · exact absurd c7 (by omega)
  · show zF G mL_isSound (d + 10) 4 [(2, zI (((nS N) : Nat) : Int)), (1, zI (cAllN N (nS N))), (0, zR (B0 0))] [] σ _
    refine zF_iload_n 5 dL_isSound_4 rfl rfl ?_
    refine zF_aload_n 6 dL_isSound_5 rfl rfl ?_
    refine zF_iconst 7 dL_isSound_6 rfl ?_
    refine zF_callVi 10 (d2 := (d + 9)) (as := [zI 1]) dL_isSound_7 rfl kL_110 iX11_size (ci := 11) rfl eX11_size (Nat.le_refl _) hK.1.bk hK.1.bl rfl rfl (Nat.le_of_ble_eq_true rfl) ((show zP1 G mX11_size _ _ σ (N 1) from qL_size (d := d + 1) hGd hK (by omega) (by omega))) ?_
    refine zF_icmp_ge 126 13 dL_isSound_10 rfl rfl (by first | decide | assumption | exact hK.V.b _ | exact w32_rg _ | (constructor <;> omega)) (by first | decide | assumption | exact hK.V.b _ | exact w32_rg _ | (constructor <;> omega)) (fun c9 => ?_) (fun c9 => ?_)
    · refine zF_iconst 127 dL_isSound_126 rfl ?_
      refine zF_istore_n 128 (ls' := [(2, zI 0), (1, zI (cAllN N (nS N))), (0, zR (B0 0))]) dL_isSound_127 rfl (by decide) rfl ?_
      refine zF_iconst 129 dL_isSound_128 rfl ?_
      refine zF_istore_n 130 (ls' := [(3, zI 0), (2, zI 0), (1, zI (cAllN N (nS N))), (0, zR (B0 0))]) dL_isSound_129 rfl (by decide) rfl ?_
      refine zF_locs (ls' := (fun (i3 : Nat) => [(3, zI (i3 : Int)), (2, zI (zsum (fun h => cHouseN N h (nS N)) i3)), (1, zI (cAllN N (nS N))), (0, zR (B0 0))]) 0) ⟨zlI rfl (by first | rfl | omega | (push_cast; omega) | exact congrArg (_ + ·) (zbT (by assumption)) | exact congrArg (_ + ·) (zbF (by assumption)) | exact congrArg (_ + ·) (zbT (by omega)) | exact congrArg (_ + ·) (zbF (by omega)) | exact congrArg (_ + ·) (if_pos (by omega)).symm | exact congrArg (_ + ·) (if_neg (by omega)).symm | exact (if_pos (by omega)).symm | exact (if_neg (by omega)).symm | exact zsub_s (if_pos (by omega)).symm | exact zsub_s0 (if_neg (by omega)).symm | exact zadd0 (if_neg (by omega)).symm | exact zadd0 (zbF (by omega)) | exact (Int.sub_zero _).symm), zlI rfl (by first | rfl | omega | (push_cast; omega) | exact congrArg (_ + ·) (zbT (by assumption)) | exact congrArg (_ + ·) (zbF (by assumption)) | exact congrArg (_ + ·) (zbT (by omega)) | exact congrArg (_ + ·) (zbF (by omega)) | exact congrArg (_ + ·) (if_pos (by omega)).symm | exact congrArg (_ + ·) (if_neg (by omega)).symm | exact (if_pos (by omega)).symm | exact (if_neg (by omega)).symm | exact zsub_s (if_pos (by omega)).symm | exact zsub_s0 (if_neg (by omega)).symm | exact zadd0 (if_neg (by omega)).symm | exact zadd0 (zbF (by omega)) | exact (Int.sub_zero _).symm), rfl, rfl, trivial⟩ ?_
      refine zF_loop (n := (nH N)) (fun (i3 : Nat) => [(3, zI (i3 : Int)), (2, zI (zsum (fun h => cHouseN N h (nS N)) i3)), (1, zI (cAllN N (nS N))), (0, zR (B0 0))]) (fun _ => σ) (fun i3 hi3 ih130 => ?_) ?_
      · show zF G mL_isSound (d + 10) 130 [(3, zI (i3 : Int)), (2, zI (zsum (fun h => cHouseN N h (nS N)) i3)), (1, zI (cAllN N (nS N))), (0, zR (B0 0))] [] σ _
        refine zF_iload_n 131 dL_isSound_130 rfl rfl ?_
        refine zF_aload_n 132 dL_isSound_131 rfl rfl ?_
        refine zF_iconst 133 dL_isSound_132 rfl ?_
        refine zF_callVi 136 (d2 := (d + 9)) (as := [zI 0]) dL_isSound_133 rfl kL_110 iX11_size (ci := 11) rfl eX11_size (Nat.le_refl _) hK.1.bk hK.1.bl rfl rfl (Nat.le_of_ble_eq_true rfl) ((show zP1 G mX11_size _ _ σ (N 0) from qL_size (d := d + 1) hGd hK (by omega) (by omega))) ?_
        refine zF_icmp_ge 327 139 dL_isSound_136 rfl rfl (by first | decide | assumption | exact hK.V.b _ | exact w32_rg _ | (constructor <;> omega)) (by first | decide | assumption | exact hK.V.b _ | exact w32_rg _ | (constructor <;> omega)) (fun c10 => ?_) (fun c10 => ?_)
        · exact absurd c10 (by omega)
        · refine zF_iconst 140 dL_isSound_139 rfl ?_
          refine zF_istore 142 (ls' := [(4, zI 0), (3, zI (i3 : Int)), (2, zI (zsum (fun h => cHouseN N h (nS N)) i3)), (1, zI (cAllN N (nS N))), (0, zR (B0 0))]) dL_isSound_140 rfl (by decide) rfl ?_
          refine zF_iconst 143 dL_isSound_142 rfl ?_
          refine zF_istore 145 (ls' := [(5, zI 0), (4, zI 0), (3, zI (i3 : Int)), (2, zI (zsum (fun h => cHouseN N h (nS N)) i3)), (1, zI (cAllN N (nS N))), (0, zR (B0 0))]) dL_isSound_143 rfl (by decide) rfl ?_
          refine zF_locs (ls' := (fun (i4 : Nat) => [(5, zI (i4 : Int)), (4, zI (cShN N i3 i4)), (3, zI (i3 : Int)), (2, zI (zsum (fun h => cHouseN N h (nS N)) i3)), (1, zI (cAllN N (nS N))), (0, zR (B0 0))]) 0) ⟨zlI rfl (by first | rfl | omega | (push_cast; omega) | exact congrArg (_ + ·) (zbT (by assumption)) | exact congrArg (_ + ·) (zbF (by assumption)) | exact congrArg (_ + ·) (zbT (by omega)) | exact congrArg (_ + ·) (zbF (by omega)) | exact congrArg (_ + ·) (if_pos (by omega)).symm | exact congrArg (_ + ·) (if_neg (by omega)).symm | exact (if_pos (by omega)).symm | exact (if_neg (by omega)).symm | exact zsub_s (if_pos (by omega)).symm | exact zsub_s0 (if_neg (by omega)).symm | exact zadd0 (if_neg (by omega)).symm | exact zadd0 (zbF (by omega)) | exact (Int.sub_zero _).symm), zlI rfl (by first | rfl | omega | (push_cast; omega) | exact congrArg (_ + ·) (zbT (by assumption)) | exact congrArg (_ + ·) (zbF (by assumption)) | exact congrArg (_ + ·) (zbT (by omega)) | exact congrArg (_ + ·) (zbF (by omega)) | exact congrArg (_ + ·) (if_pos (by omega)).symm | exact congrArg (_ + ·) (if_neg (by omega)).symm | exact (if_pos (by omega)).symm | exact (if_neg (by omega)).symm | exact zsub_s (if_pos (by omega)).symm | exact zsub_s0 (if_neg (by omega)).symm | exact zadd0 (if_neg (by omega)).symm | exact zadd0 (zbF (by omega)) | exact (Int.sub_zero _).symm), rfl, rfl, rfl, rfl, trivial⟩ ?_
          refine zF_loop (n := (nF N)) (fun (i4 : Nat) => [(5, zI (i4 : Int)), (4, zI (cShN N i3 i4)), (3, zI (i3 : Int)), (2, zI (zsum (fun h => cHouseN N h (nS N)) i3)), (1, zI (cAllN N (nS N))), (0, zR (B0 0))]) (fun _ => σ) (fun i4 hi4 ih145 => ?_) ?_
          · show zF G mL_isSound (d + 10) 145 [(5, zI (i4 : Int)), (4, zI (cShN N i3 i4)), (3, zI (i3 : Int)), (2, zI (zsum (fun h => cHouseN N h (nS N)) i3)), (1, zI (cAllN N (nS N))), (0, zR (B0 0))] [] σ _
            refine zF_iload 147 dL_isSound_145 rfl rfl ?_
            refine zF_aload_n 148 dL_isSound_147 rfl rfl ?_
            refine zF_iconst 149 dL_isSound_148 rfl ?_
            refine zF_callVi 152 (d2 := (d + 9)) (as := [zI 2]) dL_isSound_149 rfl kL_110 iX11_size (ci := 11) rfl eX11_size (Nat.le_refl _) hK.1.bk hK.1.bl rfl rfl (Nat.le_of_ble_eq_true rfl) ((show zP1 G mX11_size _ _ σ (N 2) from qL_size (d := d + 1) hGd hK (by omega) (by omega))) ?_
            refine zF_icmp_ge 283 155 dL_isSound_152 rfl rfl (by first | decide | assumption | exact hK.V.b _ | exact w32_rg _ | (constructor <;> omega)) (by first | decide | assumption | exact hK.V.b _ | exact w32_rg _ | (constructor <;> omega)) (fun c11 => ?_) (fun c11 => ?_)
            · exact absurd c11 (by omega)
            · refine zF_iload 157 dL_isSound_155 rfl rfl ?_
              refine zF_aload_n 158 dL_isSound_157 rfl rfl ?_
              refine zF_iload_n 159 dL_isSound_158 rfl rfl ?_
              refine zF_iload 161 dL_isSound_159 rfl rfl ?_
              refine zF_callVi 164 (d2 := (d + 9)) (as := [zI (i3 : Int), zI (i4 : Int)]) dL_isSound_161 rfl kL_200 iX11_share (ci := 11) rfl eX11_share (Nat.le_refl _) hK.1.bk hK.1.bl rfl rfl (Nat.le_of_ble_eq_true rfl) ((show zP1 G mX11_share _ _ σ (mShare N (i3 : Int) (i4 : Int) (cFi N (i3 : Int) (i4 : Int))) from qL_share (d := d + 1) hGd hK (by omega) (by omega) (by omega) (by omega))) ?_
              refine zF_iadd 165 dL_isSound_164 rfl ?_
              refine zF_istore 167 (ls' := [(4, zI ((cShN N i3 i4) + (mShare N (i3 : Int) (i4 : Int) (cFi N (i3 : Int) (i4 : Int))))), (5, zI (i4 : Int)), (3, zI (i3 : Int)), (2, zI (zsum (fun h => cHouseN N h (nS N)) i3)), (1, zI (cAllN N (nS N))), (0, zR (B0 0))]) dL_isSound_165 rfl (by decide) rfl ?_
              refine zF_iconst 168 dL_isSound_167 rfl ?_
              refine zF_istore 170 (ls' := [(6, zI 0), (4, zI ((cShN N i3 i4) + (mShare N (i3 : Int) (i4 : Int) (cFi N (i3 : Int) (i4 : Int))))), (5, zI (i4 : Int)), (3, zI (i3 : Int)), (2, zI (zsum (fun h => cHouseN N h (nS N)) i3)), (1, zI (cAllN N (nS N))), (0, zR (B0 0))]) dL_isSound_168 rfl (by decide) rfl ?_
              refine zF_locs (ls' := (fun (i5 : Nat) => [(6, zI (i5 : Int)), (5, zI (i4 : Int)), (4, zI (cShN N i3 (i4 + 1))), (3, zI (i3 : Int)), (2, zI (zsum (fun h => cHouseN N h (nS N)) i3)), (1, zI (cAllN N (nS N))), (0, zR (B0 0))]) 0) ⟨zlI rfl (by first | rfl | omega | (push_cast; omega) | exact congrArg (_ + ·) (zbT (by assumption)) | exact congrArg (_ + ·) (zbF (by assumption)) | exact congrArg (_ + ·) (zbT (by omega)) | exact congrArg (_ + ·) (zbF (by omega)) | exact congrArg (_ + ·) (if_pos (by omega)).symm | exact congrArg (_ + ·) (if_neg (by omega)).symm | exact (if_pos (by omega)).symm | exact (if_neg (by omega)).symm | exact zsub_s (if_pos (by omega)).symm | exact zsub_s0 (if_neg (by omega)).symm | exact zadd0 (if_neg (by omega)).symm | exact zadd0 (zbF (by omega)) | exact (Int.sub_zero _).symm), rfl, zlI rfl (by first | rfl | omega | (push_cast; omega) | exact congrArg (_ + ·) (zbT (by assumption)) | exact congrArg (_ + ·) (zbF (by assumption)) | exact congrArg (_ + ·) (zbT (by omega)) | exact congrArg (_ + ·) (zbF (by omega)) | exact congrArg (_ + ·) (if_pos (by omega)).symm | exact congrArg (_ + ·) (if_neg (by omega)).symm | exact (if_pos (by omega)).symm | exact (if_neg (by omega)).symm | exact zsub_s (if_pos (by omega)).symm | exact zsub_s0 (if_neg (by omega)).symm | exact zadd0 (if_neg (by omega)).symm | exact zadd0 (zbF (by omega)) | exact (Int.sub_zero _).symm), rfl, rfl, rfl, rfl, trivial⟩ ?_
              refine zF_loop (n := 7) (fun (i5 : Nat) => [(6, zI (i5 : Int)), (5, zI (i4 : Int)), (4, zI (cShN N i3 (i4 + 1))), (3, zI (i3 : Int)), (2, zI (zsum (fun h => cHouseN N h (nS N)) i3)), (1, zI (cAllN N (nS N))), (0, zR (B0 0))]) (fun _ => σ) (fun i5 hi5 ih170 => ?_) ?_
              · show zF G mL_isSound (d + 10) 170 [(6, zI (i5 : Int)), (5, zI (i4 : Int)), (4, zI (cShN N i3 (i4 + 1))), (3, zI (i3 : Int)), (2, zI (zsum (fun h => cHouseN N h (nS N)) i3)), (1, zI (cAllN N (nS N))), (0, zR (B0 0))] [] σ _
                refine zF_iload 172 dL_isSound_170 rfl rfl ?_
                refine zF_bipush 174 dL_isSound_172 rfl (by decide) ?_
                refine zF_icmp_ge 277 177 dL_isSound_174 rfl rfl (by first | decide | assumption | exact hK.V.b _ | exact w32_rg _ | (constructor <;> omega)) (by first | decide | assumption | exact hK.V.b _ | exact w32_rg _ | (constructor <;> omega)) (fun c12 => ?_) (fun c12 => ?_)
                · exact absurd c12 (by omega)
                · refine zF_iconst 178 dL_isSound_177 rfl ?_
                  refine zF_istore 180 (ls' := [(7, zI 0), (6, zI (i5 : Int)), (5, zI (i4 : Int)), (4, zI (cShN N i3 (i4 + 1))), (3, zI (i3 : Int)), (2, zI (zsum (fun h => cHouseN N h (nS N)) i3)), (1, zI (cAllN N (nS N))), (0, zR (B0 0))]) dL_isSound_178 rfl (by decide) rfl ?_
                  refine zF_iconst 181 dL_isSound_180 rfl ?_
                  refine zF_istore 183 (ls' := [(8, zI 0), (7, zI 0), (6, zI (i5 : Int)), (5, zI (i4 : Int)), (4, zI (cShN N i3 (i4 + 1))), (3, zI (i3 : Int)), (2, zI (zsum (fun h => cHouseN N h (nS N)) i3)), (1, zI (cAllN N (nS N))), (0, zR (B0 0))]) dL_isSound_181 rfl (by decide) rfl ?_
                  refine zF_iconst 184 dL_isSound_183 rfl ?_
                  refine zF_istore 186 (ls' := [(9, zI 0), (8, zI 0), (7, zI 0), (6, zI (i5 : Int)), (5, zI (i4 : Int)), (4, zI (cShN N i3 (i4 + 1))), (3, zI (i3 : Int)), (2, zI (zsum (fun h => cHouseN N h (nS N)) i3)), (1, zI (cAllN N (nS N))), (0, zR (B0 0))]) dL_isSound_184 rfl (by decide) rfl ?_
                  refine zF_locs (ls' := (fun (i6 : Nat) => [(9, zI (i6 : Int)), (8, zI (zsum (fun s => if mS N s 0 = (i3 : Int) ∧ mSh N s i5 = (i4 : Int) then gv N s i5 else 0) i6)), (7, zI (zsum (fun s => zb (mS N s 0 = (i3 : Int) ∧ mSh N s i5 = (i4 : Int))) i6)), (6, zI (i5 : Int)), (5, zI (i4 : Int)), (4, zI (cShN N i3 (i4 + 1))), (3, zI (i3 : Int)), (2, zI (zsum (fun h => cHouseN N h (nS N)) i3)), (1, zI (cAllN N (nS N))), (0, zR (B0 0))]) 0) ⟨zlI rfl (by first | rfl | omega | (push_cast; omega) | exact congrArg (_ + ·) (zbT (by assumption)) | exact congrArg (_ + ·) (zbF (by assumption)) | exact congrArg (_ + ·) (zbT (by omega)) | exact congrArg (_ + ·) (zbF (by omega)) | exact congrArg (_ + ·) (if_pos (by omega)).symm | exact congrArg (_ + ·) (if_neg (by omega)).symm | exact (if_pos (by omega)).symm | exact (if_neg (by omega)).symm | exact zsub_s (if_pos (by omega)).symm | exact zsub_s0 (if_neg (by omega)).symm | exact zadd0 (if_neg (by omega)).symm | exact zadd0 (zbF (by omega)) | exact (Int.sub_zero _).symm), zlI rfl (by first | rfl | omega | (push_cast; omega) | exact congrArg (_ + ·) (zbT (by assumption)) | exact congrArg (_ + ·) (zbF (by assumption)) | exact congrArg (_ + ·) (zbT (by omega)) | exact congrArg (_ + ·) (zbF (by omega)) | exact congrArg (_ + ·) (if_pos (by omega)).symm | exact congrArg (_ + ·) (if_neg (by omega)).symm | exact (if_pos (by omega)).symm | exact (if_neg (by omega)).symm | exact zsub_s (if_pos (by omega)).symm | exact zsub_s0 (if_neg (by omega)).symm | exact zadd0 (if_neg (by omega)).symm | exact zadd0 (zbF (by omega)) | exact (Int.sub_zero _).symm), zlI rfl (by first | rfl | omega | (push_cast; omega) | exact congrArg (_ + ·) (zbT (by assumption)) | exact congrArg (_ + ·) (zbF (by assumption)) | exact congrArg (_ + ·) (zbT (by omega)) | exact congrArg (_ + ·) (zbF (by omega)) | exact congrArg (_ + ·) (if_pos (by omega)).symm | exact congrArg (_ + ·) (if_neg (by omega)).symm | exact (if_pos (by omega)).symm | exact (if_neg (by omega)).symm | exact zsub_s (if_pos (by omega)).symm | exact zsub_s0 (if_neg (by omega)).symm | exact zadd0 (if_neg (by omega)).symm | exact zadd0 (zbF (by omega)) | exact (Int.sub_zero _).symm), rfl, rfl, rfl, rfl, rfl, rfl, rfl, trivial⟩ ?_
                  refine zF_loop (n := (nS N)) (fun (i6 : Nat) => [(9, zI (i6 : Int)), (8, zI (zsum (fun s => if mS N s 0 = (i3 : Int) ∧ mSh N s i5 = (i4 : Int) then gv N s i5 else 0) i6)), (7, zI (zsum (fun s => zb (mS N s 0 = (i3 : Int) ∧ mSh N s i5 = (i4 : Int))) i6)), (6, zI (i5 : Int)), (5, zI (i4 : Int)), (4, zI (cShN N i3 (i4 + 1))), (3, zI (i3 : Int)), (2, zI (zsum (fun h => cHouseN N h (nS N)) i3)), (1, zI (cAllN N (nS N))), (0, zR (B0 0))]) (fun _ => σ) (fun i6 hi6 ih186 => ?_) ?_
                  · show zF G mL_isSound (d + 10) 186 [(9, zI (i6 : Int)), (8, zI (zsum (fun s => if mS N s 0 = (i3 : Int) ∧ mSh N s i5 = (i4 : Int) then gv N s i5 else 0) i6)), (7, zI (zsum (fun s => zb (mS N s 0 = (i3 : Int) ∧ mSh N s i5 = (i4 : Int))) i6)), (6, zI (i5 : Int)), (5, zI (i4 : Int)), (4, zI (cShN N i3 (i4 + 1))), (3, zI (i3 : Int)), (2, zI (zsum (fun h => cHouseN N h (nS N)) i3)), (1, zI (cAllN N (nS N))), (0, zR (B0 0))] [] σ _
                    refine zF_iload 188 dL_isSound_186 rfl rfl ?_
                    refine zF_aload_n 189 dL_isSound_188 rfl rfl ?_
                    refine zF_iconst 190 dL_isSound_189 rfl ?_
                    refine zF_callVi 193 (d2 := (d + 9)) (as := [zI 1]) dL_isSound_190 rfl kL_110 iX11_size (ci := 11) rfl eX11_size (Nat.le_refl _) hK.1.bk hK.1.bl rfl rfl (Nat.le_of_ble_eq_true rfl) ((show zP1 G mX11_size _ _ σ (N 1) from qL_size (d := d + 1) hGd hK (by omega) (by omega))) ?_
                    refine zF_icmp_ge 245 196 dL_isSound_193 rfl rfl (by first | decide | assumption | exact hK.V.b _ | exact w32_rg _ | (constructor <;> omega)) (by first | decide | assumption | exact hK.V.b _ | exact w32_rg _ | (constructor <;> omega)) (fun c13 => ?_) (fun c13 => ?_)
                    · exact absurd c13 (by omega)
                    · have hv := hK.V.s (i6 : Int) (by omega) (by omega)
                      have shb := mSh_b hK.V (s := (i6 : Int)) (by omega) (by omega) (i5 : Int)
                      refine zF_aload_n 197 dL_isSound_196 rfl rfl ?_
                      refine zF_iload 199 dL_isSound_197 rfl rfl ?_
                      refine zF_iconst 200 dL_isSound_199 rfl ?_
                      refine zF_callVi 203 (d2 := (d + 9)) (as := [zI (i6 : Int), zI 0]) dL_isSound_200 rfl kL_108 iX11_screen (ci := 11) rfl eX11_screen (Nat.le_refl _) hK.1.bk hK.1.bl rfl rfl (Nat.le_of_ble_eq_true rfl) ((show zP1 G mX11_screen _ _ σ (mS N (i6 : Int) 0) from qL_screen (d := d + 1) hGd hK (by omega) (by omega) (by omega) (by omega))) ?_
                      refine zF_iload_n 204 dL_isSound_203 rfl rfl ?_
                      refine zF_icmp_ne 239 207 dL_isSound_204 rfl rfl (by first | decide | assumption | exact hK.V.b _ | exact w32_rg _ | (constructor <;> omega)) (by first | decide | assumption | exact hK.V.b _ | exact w32_rg _ | (constructor <;> omega)) (fun c14 => ?_) (fun c14 => ?_)
                      · refine zF_iinc 242 (ls' := [(9, zI ((i6 : Int) + 1)), (8, zI (zsum (fun s => if mS N s 0 = (i3 : Int) ∧ mSh N s i5 = (i4 : Int) then gv N s i5 else 0) i6)), (7, zI (zsum (fun s => zb (mS N s 0 = (i3 : Int) ∧ mSh N s i5 = (i4 : Int))) i6)), (6, zI (i5 : Int)), (5, zI (i4 : Int)), (4, zI (cShN N i3 (i4 + 1))), (3, zI (i3 : Int)), (2, zI (zsum (fun h => cHouseN N h (nS N)) i3)), (1, zI (cAllN N (nS N))), (0, zR (B0 0))]) dL_isSound_239 rfl rfl rfl (by decide) rfl ?_
                        refine zF_goto 186 dL_isSound_242 rfl ?_
                        exact zF_locs (ls' := [(9, zI ((i6 + 1 : Nat) : Int)), (8, zI (zsum (fun s => if mS N s 0 = (i3 : Int) ∧ mSh N s i5 = (i4 : Int) then gv N s i5 else 0) (i6 + 1))), (7, zI (zsum (fun s => zb (mS N s 0 = (i3 : Int) ∧ mSh N s i5 = (i4 : Int))) (i6 + 1))), (6, zI (i5 : Int)), (5, zI (i4 : Int)), (4, zI (cShN N i3 (i4 + 1))), (3, zI (i3 : Int)), (2, zI (zsum (fun h => cHouseN N h (nS N)) i3)), (1, zI (cAllN N (nS N))), (0, zR (B0 0))]) ⟨zlI rfl (by first | rfl | omega | (push_cast; omega) | exact congrArg (_ + ·) (zbT (by assumption)) | exact congrArg (_ + ·) (zbF (by assumption)) | exact congrArg (_ + ·) (zbT (by omega)) | exact congrArg (_ + ·) (zbF (by omega)) | exact congrArg (_ + ·) (if_pos (by omega)).symm | exact congrArg (_ + ·) (if_neg (by omega)).symm | exact (if_pos (by omega)).symm | exact (if_neg (by omega)).symm | exact zsub_s (if_pos (by omega)).symm | exact zsub_s0 (if_neg (by omega)).symm | exact zadd0 (if_neg (by omega)).symm | exact zadd0 (zbF (by omega)) | exact (Int.sub_zero _).symm), zlI rfl (by first | rfl | omega | (push_cast; omega) | exact congrArg (_ + ·) (zbT (by assumption)) | exact congrArg (_ + ·) (zbF (by assumption)) | exact congrArg (_ + ·) (zbT (by omega)) | exact congrArg (_ + ·) (zbF (by omega)) | exact congrArg (_ + ·) (if_pos (by omega)).symm | exact congrArg (_ + ·) (if_neg (by omega)).symm | exact (if_pos (by omega)).symm | exact (if_neg (by omega)).symm | exact zsub_s (if_pos (by omega)).symm | exact zsub_s0 (if_neg (by omega)).symm | exact zadd0 (if_neg (by omega)).symm | exact zadd0 (zbF (by omega)) | exact (Int.sub_zero _).symm), zlI rfl (by first | rfl | omega | (push_cast; omega) | exact congrArg (_ + ·) (zbT (by assumption)) | exact congrArg (_ + ·) (zbF (by assumption)) | exact congrArg (_ + ·) (zbT (by omega)) | exact congrArg (_ + ·) (zbF (by omega)) | exact congrArg (_ + ·) (if_pos (by omega)).symm | exact congrArg (_ + ·) (if_neg (by omega)).symm | exact (if_pos (by omega)).symm | exact (if_neg (by omega)).symm | exact zsub_s (if_pos (by omega)).symm | exact zsub_s0 (if_neg (by omega)).symm | exact zadd0 (if_neg (by omega)).symm | exact zadd0 (zbF (by omega)) | exact (Int.sub_zero _).symm), rfl, rfl, rfl, rfl, rfl, rfl, rfl, trivial⟩ ih186
                      · refine zF_aload_n 208 dL_isSound_207 rfl rfl ?_
                        refine zF_iload 210 dL_isSound_208 rfl rfl ?_
                        refine zF_iload 212 dL_isSound_210 rfl rfl ?_
                        refine zF_callVi 215 (d2 := (d + 9)) (as := [zI (i6 : Int), zI (i5 : Int)]) dL_isSound_212 rfl kL_197 iX11_shown (ci := 11) rfl eX11_shown (Nat.le_refl _) hK.1.bk hK.1.bl rfl rfl (Nat.le_of_ble_eq_true rfl) ((show zP1 G mX11_shown _ _ σ (mSh N (i6 : Int) (i5 : Int)) from qL_shown (d := d + 1) hGd hK (by omega) (by omega) (by omega) (by omega))) ?_
                        refine zF_iload 217 dL_isSound_215 rfl rfl ?_
                        refine zF_icmp_eq 223 220 dL_isSound_217 rfl rfl (by first | decide | assumption | exact hK.V.b _ | exact w32_rg _ | (constructor <;> omega)) (by first | decide | assumption | exact hK.V.b _ | exact w32_rg _ | (constructor <;> omega)) (fun c15 => ?_) (fun c15 => ?_)
                        · refine zF_iinc 226 (ls' := [(7, zI ((zsum (fun s => zb (mS N s 0 = (i3 : Int) ∧ mSh N s i5 = (i4 : Int))) i6) + 1)), (9, zI (i6 : Int)), (8, zI (zsum (fun s => if mS N s 0 = (i3 : Int) ∧ mSh N s i5 = (i4 : Int) then gv N s i5 else 0) i6)), (6, zI (i5 : Int)), (5, zI (i4 : Int)), (4, zI (cShN N i3 (i4 + 1))), (3, zI (i3 : Int)), (2, zI (zsum (fun h => cHouseN N h (nS N)) i3)), (1, zI (cAllN N (nS N))), (0, zR (B0 0))]) dL_isSound_223 rfl rfl rfl (by decide) rfl ?_
                          refine zF_iload 228 dL_isSound_226 rfl rfl ?_
                          refine zF_aload_n 229 dL_isSound_228 rfl rfl ?_
                          refine zF_iload 231 dL_isSound_229 rfl rfl ?_
                          refine zF_iload 233 dL_isSound_231 rfl rfl ?_
                          refine zF_callVi 236 (d2 := (d + 9)) (as := [zI (i6 : Int), zI (i5 : Int)]) dL_isSound_233 rfl kL_194 iX11_visitors (ci := 11) rfl eX11_visitors (Nat.le_refl _) hK.1.bk hK.1.bl rfl rfl (Nat.le_of_ble_eq_true rfl) ((show zP1 G mX11_visitors _ _ σ (gv N (i6 : Int) (i5 : Int)) from qL_visitors (d := d + 1) hGd hK (by omega) (by omega) (by omega) (by omega))) ?_
                          refine zF_iadd 237 dL_isSound_236 rfl ?_
                          refine zF_istore 239 (ls' := [(8, zI ((zsum (fun s => if mS N s 0 = (i3 : Int) ∧ mSh N s i5 = (i4 : Int) then gv N s i5 else 0) i6) + (gv N (i6 : Int) (i5 : Int)))), (7, zI ((zsum (fun s => zb (mS N s 0 = (i3 : Int) ∧ mSh N s i5 = (i4 : Int))) i6) + 1)), (9, zI (i6 : Int)), (6, zI (i5 : Int)), (5, zI (i4 : Int)), (4, zI (cShN N i3 (i4 + 1))), (3, zI (i3 : Int)), (2, zI (zsum (fun h => cHouseN N h (nS N)) i3)), (1, zI (cAllN N (nS N))), (0, zR (B0 0))]) dL_isSound_237 rfl (by decide) rfl ?_
                          refine zF_iinc 242 (ls' := [(9, zI ((i6 : Int) + 1)), (8, zI ((zsum (fun s => if mS N s 0 = (i3 : Int) ∧ mSh N s i5 = (i4 : Int) then gv N s i5 else 0) i6) + (gv N (i6 : Int) (i5 : Int)))), (7, zI ((zsum (fun s => zb (mS N s 0 = (i3 : Int) ∧ mSh N s i5 = (i4 : Int))) i6) + 1)), (6, zI (i5 : Int)), (5, zI (i4 : Int)), (4, zI (cShN N i3 (i4 + 1))), (3, zI (i3 : Int)), (2, zI (zsum (fun h => cHouseN N h (nS N)) i3)), (1, zI (cAllN N (nS N))), (0, zR (B0 0))]) dL_isSound_239 rfl rfl rfl (by decide) rfl ?_
                          refine zF_goto 186 dL_isSound_242 rfl ?_
                          exact zF_locs (ls' := [(9, zI ((i6 + 1 : Nat) : Int)), (8, zI (zsum (fun s => if mS N s 0 = (i3 : Int) ∧ mSh N s i5 = (i4 : Int) then gv N s i5 else 0) (i6 + 1))), (7, zI (zsum (fun s => zb (mS N s 0 = (i3 : Int) ∧ mSh N s i5 = (i4 : Int))) (i6 + 1))), (6, zI (i5 : Int)), (5, zI (i4 : Int)), (4, zI (cShN N i3 (i4 + 1))), (3, zI (i3 : Int)), (2, zI (zsum (fun h => cHouseN N h (nS N)) i3)), (1, zI (cAllN N (nS N))), (0, zR (B0 0))]) ⟨zlI rfl (by first | rfl | omega | (push_cast; omega) | exact congrArg (_ + ·) (zbT (by assumption)) | exact congrArg (_ + ·) (zbF (by assumption)) | exact congrArg (_ + ·) (zbT (by omega)) | exact congrArg (_ + ·) (zbF (by omega)) | exact congrArg (_ + ·) (if_pos (by omega)).symm | exact congrArg (_ + ·) (if_neg (by omega)).symm | exact (if_pos (by omega)).symm | exact (if_neg (by omega)).symm | exact zsub_s (if_pos (by omega)).symm | exact zsub_s0 (if_neg (by omega)).symm | exact zadd0 (if_neg (by omega)).symm | exact zadd0 (zbF (by omega)) | exact (Int.sub_zero _).symm), zlI rfl (by first | rfl | omega | (push_cast; omega) | exact congrArg (_ + ·) (zbT (by assumption)) | exact congrArg (_ + ·) (zbF (by assumption)) | exact congrArg (_ + ·) (zbT (by omega)) | exact congrArg (_ + ·) (zbF (by omega)) | exact congrArg (_ + ·) (if_pos (by omega)).symm | exact congrArg (_ + ·) (if_neg (by omega)).symm | exact (if_pos (by omega)).symm | exact (if_neg (by omega)).symm | exact zsub_s (if_pos (by omega)).symm | exact zsub_s0 (if_neg (by omega)).symm | exact zadd0 (if_neg (by omega)).symm | exact zadd0 (zbF (by omega)) | exact (Int.sub_zero _).symm), zlI rfl (by first | rfl | omega | (push_cast; omega) | exact congrArg (_ + ·) (zbT (by assumption)) | exact congrArg (_ + ·) (zbF (by assumption)) | exact congrArg (_ + ·) (zbT (by omega)) | exact congrArg (_ + ·) (zbF (by omega)) | exact congrArg (_ + ·) (if_pos (by omega)).symm | exact congrArg (_ + ·) (if_neg (by omega)).symm | exact (if_pos (by omega)).symm | exact (if_neg (by omega)).symm | exact zsub_s (if_pos (by omega)).symm | exact zsub_s0 (if_neg (by omega)).symm | exact zadd0 (if_neg (by omega)).symm | exact zadd0 (zbF (by omega)) | exact (Int.sub_zero _).symm), rfl, rfl, rfl, rfl, rfl, rfl, rfl, trivial⟩ ih186
                        · refine zF_goto 239 dL_isSound_220 rfl ?_
                          refine zF_iinc 242 (ls' := [(9, zI ((i6 : Int) + 1)), (8, zI (zsum (fun s => if mS N s 0 = (i3 : Int) ∧ mSh N s i5 = (i4 : Int) then gv N s i5 else 0) i6)), (7, zI (zsum (fun s => zb (mS N s 0 = (i3 : Int) ∧ mSh N s i5 = (i4 : Int))) i6)), (6, zI (i5 : Int)), (5, zI (i4 : Int)), (4, zI (cShN N i3 (i4 + 1))), (3, zI (i3 : Int)), (2, zI (zsum (fun h => cHouseN N h (nS N)) i3)), (1, zI (cAllN N (nS N))), (0, zR (B0 0))]) dL_isSound_239 rfl rfl rfl (by decide) rfl ?_
                          refine zF_goto 186 dL_isSound_242 rfl ?_
                          exact zF_locs (ls' := [(9, zI ((i6 + 1 : Nat) : Int)), (8, zI (zsum (fun s => if mS N s 0 = (i3 : Int) ∧ mSh N s i5 = (i4 : Int) then gv N s i5 else 0) (i6 + 1))), (7, zI (zsum (fun s => zb (mS N s 0 = (i3 : Int) ∧ mSh N s i5 = (i4 : Int))) (i6 + 1))), (6, zI (i5 : Int)), (5, zI (i4 : Int)), (4, zI (cShN N i3 (i4 + 1))), (3, zI (i3 : Int)), (2, zI (zsum (fun h => cHouseN N h (nS N)) i3)), (1, zI (cAllN N (nS N))), (0, zR (B0 0))]) ⟨zlI rfl (by first | rfl | omega | (push_cast; omega) | exact congrArg (_ + ·) (zbT (by assumption)) | exact congrArg (_ + ·) (zbF (by assumption)) | exact congrArg (_ + ·) (zbT (by omega)) | exact congrArg (_ + ·) (zbF (by omega)) | exact congrArg (_ + ·) (if_pos (by omega)).symm | exact congrArg (_ + ·) (if_neg (by omega)).symm | exact (if_pos (by omega)).symm | exact (if_neg (by omega)).symm | exact zsub_s (if_pos (by omega)).symm | exact zsub_s0 (if_neg (by omega)).symm | exact zadd0 (if_neg (by omega)).symm | exact zadd0 (zbF (by omega)) | exact (Int.sub_zero _).symm), zlI rfl (by first | rfl | omega | (push_cast; omega) | exact congrArg (_ + ·) (zbT (by assumption)) | exact congrArg (_ + ·) (zbF (by assumption)) | exact congrArg (_ + ·) (zbT (by omega)) | exact congrArg (_ + ·) (zbF (by omega)) | exact congrArg (_ + ·) (if_pos (by omega)).symm | exact congrArg (_ + ·) (if_neg (by omega)).symm | exact (if_pos (by omega)).symm | exact (if_neg (by omega)).symm | exact zsub_s (if_pos (by omega)).symm | exact zsub_s0 (if_neg (by omega)).symm | exact zadd0 (if_neg (by omega)).symm | exact zadd0 (zbF (by omega)) | exact (Int.sub_zero _).symm), zlI rfl (by first | rfl | omega | (push_cast; omega) | exact congrArg (_ + ·) (zbT (by assumption)) | exact congrArg (_ + ·) (zbF (by assumption)) | exact congrArg (_ + ·) (zbT (by omega)) | exact congrArg (_ + ·) (zbF (by omega)) | exact congrArg (_ + ·) (if_pos (by omega)).symm | exact congrArg (_ + ·) (if_neg (by omega)).symm | exact (if_pos (by omega)).symm | exact (if_neg (by omega)).symm | exact zsub_s (if_pos (by omega)).symm | exact zsub_s0 (if_neg (by omega)).symm | exact zadd0 (if_neg (by omega)).symm | exact zadd0 (zbF (by omega)) | exact (Int.sub_zero _).symm), rfl, rfl, rfl, rfl, rfl, rfl, rfl, trivial⟩ ih186
                  · show zF G mL_isSound (d + 10) 186 [(9, zI (((nS N) : Nat) : Int)), (8, zI (zsum (fun s => if mS N s 0 = (i3 : Int) ∧ mSh N s i5 = (i4 : Int) then gv N s i5 else 0) (nS N))), (7, zI (zsum (fun s => zb (mS N s 0 = (i3 : Int) ∧ mSh N s i5 = (i4 : Int))) (nS N))), (6, zI (i5 : Int)), (5, zI (i4 : Int)), (4, zI (cShN N i3 (i4 + 1))), (3, zI (i3 : Int)), (2, zI (zsum (fun h => cHouseN N h (nS N)) i3)), (1, zI (cAllN N (nS N))), (0, zR (B0 0))] [] σ _
                    refine zF_iload 188 dL_isSound_186 rfl rfl ?_
                    refine zF_aload_n 189 dL_isSound_188 rfl rfl ?_
                    refine zF_iconst 190 dL_isSound_189 rfl ?_
                    refine zF_callVi 193 (d2 := (d + 9)) (as := [zI 1]) dL_isSound_190 rfl kL_110 iX11_size (ci := 11) rfl eX11_size (Nat.le_refl _) hK.1.bk hK.1.bl rfl rfl (Nat.le_of_ble_eq_true rfl) ((show zP1 G mX11_size _ _ σ (N 1) from qL_size (d := d + 1) hGd hK (by omega) (by omega))) ?_
                    refine zF_icmp_ge 245 196 dL_isSound_193 rfl rfl (by first | decide | assumption | exact hK.V.b _ | exact w32_rg _ | (constructor <;> omega)) (by first | decide | assumption | exact hK.V.b _ | exact w32_rg _ | (constructor <;> omega)) (fun c16 => ?_) (fun c16 => ?_)
                    · have c1 : (zsum (fun s => zb (mS N s 0 = (i3 : Int) ∧ mSh N s i5 = (i4 : Int))) (nS N)) ≤ mP N i4 i3 := cnt_le hK.mq (h := (i3 : Int)) (f := (i4 : Int)) (d := (i5 : Int)) (by omega) (by omega) (by omega) (by omega) (by omega) (by omega)
                      have c2 : 0 ≤ (zsum (fun s => zb (mS N s 0 = (i3 : Int) ∧ mSh N s i5 = (i4 : Int))) (nS N)) := (zsum_ge0 fun i _ => zb_ge _).1
                      have c3 := hK.V.p (i4 : Int) (i3 : Int) (by omega) (by omega) (by omega) (by omega)
                      have g1 : (zsum (fun s => if mS N s 0 = (i3 : Int) ∧ mSh N s i5 = (i4 : Int) then gv N s i5 else 0) (nS N)) = max 0 (min (mDem N i4) (cpN N i3 i4 i5 (nS N))) := gs_all hK.V (h := (i3 : Int)) (f := (i4 : Int)) (d := (i5 : Int)) (by omega) (by omega)
                      have g2 : 0 ≤ mDem N i4 ∧ mDem N i4 ≤ 9999 := mDem_b hK.V (f := (i4 : Int)) (by omega) (by omega) _
                      refine zF_iload 247 dL_isSound_245 rfl rfl ?_
                      refine zF_aload_n 248 dL_isSound_247 rfl rfl ?_
                      refine zF_iload 250 dL_isSound_248 rfl rfl ?_
                      refine zF_iload_n 251 dL_isSound_250 rfl rfl ?_
                      refine zF_callVi 254 (d2 := (d + 9)) (as := [zI (i4 : Int), zI (i3 : Int)]) dL_isSound_251 rfl kL_125 iX11_prints (ci := 11) rfl eX11_prints (Nat.le_refl _) hK.1.bk hK.1.bl rfl rfl (Nat.le_of_ble_eq_true rfl) ((show zP1 G mX11_prints _ _ σ (mP N (i4 : Int) (i3 : Int)) from qL_prints (d := d + 1) hGd hK (by omega) (by omega) (by omega) (by omega))) ?_
                      refine zF_icmp_gt 269 257 dL_isSound_254 rfl rfl (by first | decide | assumption | exact hK.V.b _ | exact w32_rg _ | (constructor <;> omega)) (by first | decide | assumption | exact hK.V.b _ | exact w32_rg _ | (constructor <;> omega)) (fun c17 => ?_) (fun c17 => ?_)
                      · refine zF_iconst 270 dL_isSound_269 rfl ?_
                        exact zF_zreturn dL_isSound_270 rfl (by decide) (by exfalso; omega)
                      · refine zF_iload 259 dL_isSound_257 rfl rfl ?_
                        refine zF_aload_n 260 dL_isSound_259 rfl rfl ?_
                        refine zF_iload 262 dL_isSound_260 rfl rfl ?_
                        refine zF_iconst 263 dL_isSound_262 rfl ?_
                        refine zF_callVi 266 (d2 := (d + 9)) (as := [zI (i4 : Int), zI 5]) dL_isSound_263 rfl kL_120 iX11_film (ci := 11) rfl eX11_film (Nat.le_refl _) hK.1.bk hK.1.bl rfl rfl (Nat.le_of_ble_eq_true rfl) ((show zP1 G mX11_film _ _ σ (mDem N (i4 : Int)) from qL_film (d := d + 1) hGd hK (by omega) (by omega) (by omega) (by omega))) ?_
                        refine zF_icmp_le 271 269 dL_isSound_266 rfl rfl (by first | decide | assumption | exact hK.V.b _ | exact w32_rg _ | (constructor <;> omega)) (by first | decide | assumption | exact hK.V.b _ | exact w32_rg _ | (constructor <;> omega)) (fun c18 => ?_) (fun c18 => ?_)
                        · refine zF_iinc 274 (ls' := [(6, zI ((i5 : Int) + 1)), (9, zI (((nS N) : Nat) : Int)), (8, zI (zsum (fun s => if mS N s 0 = (i3 : Int) ∧ mSh N s i5 = (i4 : Int) then gv N s i5 else 0) (nS N))), (7, zI (zsum (fun s => zb (mS N s 0 = (i3 : Int) ∧ mSh N s i5 = (i4 : Int))) (nS N))), (5, zI (i4 : Int)), (4, zI (cShN N i3 (i4 + 1))), (3, zI (i3 : Int)), (2, zI (zsum (fun h => cHouseN N h (nS N)) i3)), (1, zI (cAllN N (nS N))), (0, zR (B0 0))]) dL_isSound_271 rfl rfl rfl (by decide) rfl ?_
                          refine zF_goto 170 dL_isSound_274 rfl ?_
                          exact zF_locs (ls' := [(6, zI ((i5 + 1 : Nat) : Int)), (5, zI (i4 : Int)), (4, zI (cShN N i3 (i4 + 1))), (3, zI (i3 : Int)), (2, zI (zsum (fun h => cHouseN N h (nS N)) i3)), (1, zI (cAllN N (nS N))), (0, zR (B0 0))]) ⟨zlI rfl (by first | rfl | omega | (push_cast; omega) | exact congrArg (_ + ·) (zbT (by assumption)) | exact congrArg (_ + ·) (zbF (by assumption)) | exact congrArg (_ + ·) (zbT (by omega)) | exact congrArg (_ + ·) (zbF (by omega)) | exact congrArg (_ + ·) (if_pos (by omega)).symm | exact congrArg (_ + ·) (if_neg (by omega)).symm | exact (if_pos (by omega)).symm | exact (if_neg (by omega)).symm | exact zsub_s (if_pos (by omega)).symm | exact zsub_s0 (if_neg (by omega)).symm | exact zadd0 (if_neg (by omega)).symm | exact zadd0 (zbF (by omega)) | exact (Int.sub_zero _).symm), rfl, rfl, rfl, rfl, rfl, rfl, trivial⟩ ih170
                        · refine zF_iconst 270 dL_isSound_269 rfl ?_
                          exact zF_zreturn dL_isSound_270 rfl (by decide) (by exfalso; omega)
                    · exact absurd c16 (by omega)
              · show zF G mL_isSound (d + 10) 170 [(6, zI ((7 : Nat) : Int)), (5, zI (i4 : Int)), (4, zI (cShN N i3 (i4 + 1))), (3, zI (i3 : Int)), (2, zI (zsum (fun h => cHouseN N h (nS N)) i3)), (1, zI (cAllN N (nS N))), (0, zR (B0 0))] [] σ _
                refine zF_iload 172 dL_isSound_170 rfl rfl ?_
                refine zF_bipush 174 dL_isSound_172 rfl (by decide) ?_
                refine zF_icmp_ge 277 177 dL_isSound_174 rfl rfl (by first | decide | assumption | exact hK.V.b _ | exact w32_rg _ | (constructor <;> omega)) (by first | decide | assumption | exact hK.V.b _ | exact w32_rg _ | (constructor <;> omega)) (fun c19 => ?_) (fun c19 => ?_)
                · refine zF_iinc 280 (ls' := [(5, zI ((i4 : Int) + 1)), (6, zI ((7 : Nat) : Int)), (4, zI (cShN N i3 (i4 + 1))), (3, zI (i3 : Int)), (2, zI (zsum (fun h => cHouseN N h (nS N)) i3)), (1, zI (cAllN N (nS N))), (0, zR (B0 0))]) dL_isSound_277 rfl rfl rfl (by decide) rfl ?_
                  refine zF_goto 145 dL_isSound_280 rfl ?_
                  exact zF_locs (ls' := [(5, zI ((i4 + 1 : Nat) : Int)), (4, zI (cShN N i3 (i4 + 1))), (3, zI (i3 : Int)), (2, zI (zsum (fun h => cHouseN N h (nS N)) i3)), (1, zI (cAllN N (nS N))), (0, zR (B0 0))]) ⟨zlI rfl (by first | rfl | omega | (push_cast; omega) | exact congrArg (_ + ·) (zbT (by assumption)) | exact congrArg (_ + ·) (zbF (by assumption)) | exact congrArg (_ + ·) (zbT (by omega)) | exact congrArg (_ + ·) (zbF (by omega)) | exact congrArg (_ + ·) (if_pos (by omega)).symm | exact congrArg (_ + ·) (if_neg (by omega)).symm | exact (if_pos (by omega)).symm | exact (if_neg (by omega)).symm | exact zsub_s (if_pos (by omega)).symm | exact zsub_s0 (if_neg (by omega)).symm | exact zadd0 (if_neg (by omega)).symm | exact zadd0 (zbF (by omega)) | exact (Int.sub_zero _).symm), rfl, rfl, rfl, rfl, rfl, trivial⟩ ih145
                · exact absurd c19 (by omega)
          · show zF G mL_isSound (d + 10) 145 [(5, zI (((nF N) : Nat) : Int)), (4, zI (cShN N i3 (nF N))), (3, zI (i3 : Int)), (2, zI (zsum (fun h => cHouseN N h (nS N)) i3)), (1, zI (cAllN N (nS N))), (0, zR (B0 0))] [] σ _
            refine zF_iload 147 dL_isSound_145 rfl rfl ?_
            refine zF_aload_n 148 dL_isSound_147 rfl rfl ?_
            refine zF_iconst 149 dL_isSound_148 rfl ?_
            refine zF_callVi 152 (d2 := (d + 9)) (as := [zI 2]) dL_isSound_149 rfl kL_110 iX11_size (ci := 11) rfl eX11_size (Nat.le_refl _) hK.1.bk hK.1.bl rfl rfl (Nat.le_of_ble_eq_true rfl) ((show zP1 G mX11_size _ _ σ (N 2) from qL_size (d := d + 1) hGd hK (by omega) (by omega))) ?_
            refine zF_icmp_ge 283 155 dL_isSound_152 rfl rfl (by first | decide | assumption | exact hK.V.b _ | exact w32_rg _ | (constructor <;> omega)) (by first | decide | assumption | exact hK.V.b _ | exact w32_rg _ | (constructor <;> omega)) (fun c20 => ?_) (fun c20 => ?_)
            · have s1 := cSh_house hK.V (h := (i3 : Int)) (by omega) (by omega)
              have s2 := cHouse_b hK.V (i3 : Int) (nS N) (Nat.le_refl _)
              refine zF_iload 285 dL_isSound_283 rfl rfl ?_
              refine zF_aload_n 286 dL_isSound_285 rfl rfl ?_
              refine zF_iload_n 287 dL_isSound_286 rfl rfl ?_
              refine zF_iconst 288 dL_isSound_287 rfl ?_
              refine zF_callVi 291 (d2 := (d + 9)) (as := [zI (i3 : Int), zI 4]) dL_isSound_288 rfl kL_113 iX11_house (ci := 11) rfl eX11_house (Nat.le_refl _) hK.1.bk hK.1.bl rfl rfl (Nat.le_of_ble_eq_true rfl) ((show zP1 G mX11_house _ _ σ (cShN N (i3 : Int) (nF N)) from qL_house (d := d + 1) hGd hK (by omega) (by omega) (by omega) (by omega))) ?_
              refine zF_icmp_ne 310 294 dL_isSound_291 rfl rfl (by first | decide | assumption | exact hK.V.b _ | exact w32_rg _ | (constructor <;> omega)) (by first | decide | assumption | exact hK.V.b _ | exact w32_rg _ | (constructor <;> omega)) (fun c21 => ?_) (fun c21 => ?_)
              · refine zF_iconst 311 dL_isSound_310 rfl ?_
                exact zF_zreturn dL_isSound_311 rfl (by decide) (by exfalso; omega)
              · refine zF_iload 296 dL_isSound_294 rfl rfl ?_
                refine zF_if_lt 310 299 dL_isSound_296 rfl rfl (by first | decide | assumption | exact hK.V.b _ | exact w32_rg _ | (constructor <;> omega)) (fun c22 => ?_) (fun c22 => ?_)
                · refine zF_iconst 311 dL_isSound_310 rfl ?_
                  exact zF_zreturn dL_isSound_311 rfl (by decide) (by exfalso; omega)
                · refine zF_iload 301 dL_isSound_299 rfl rfl ?_
                  refine zF_aload_n 302 dL_isSound_301 rfl rfl ?_
                  refine zF_iload_n 303 dL_isSound_302 rfl rfl ?_
                  refine zF_iconst 304 dL_isSound_303 rfl ?_
                  refine zF_callVi 307 (d2 := (d + 9)) (as := [zI (i3 : Int), zI 3]) dL_isSound_304 rfl kL_113 iX11_house (ci := 11) rfl eX11_house (Nat.le_refl _) hK.1.bk hK.1.bl rfl rfl (Nat.le_of_ble_eq_true rfl) ((show zP1 G mX11_house _ _ σ (cHouseN N (i3 : Int) (nS N)) from qL_house (d := d + 1) hGd hK (by omega) (by omega) (by omega) (by omega))) ?_
                  refine zF_icmp_le 312 310 dL_isSound_307 rfl rfl (by first | decide | assumption | exact hK.V.b _ | exact w32_rg _ | (constructor <;> omega)) (by first | decide | assumption | exact hK.V.b _ | exact w32_rg _ | (constructor <;> omega)) (fun c23 => ?_) (fun c23 => ?_)
                  · refine zF_iload_n 313 dL_isSound_312 rfl rfl ?_
                    refine zF_aload_n 314 dL_isSound_313 rfl rfl ?_
                    refine zF_iload_n 315 dL_isSound_314 rfl rfl ?_
                    refine zF_iconst 316 dL_isSound_315 rfl ?_
                    refine zF_callVi 319 (d2 := (d + 9)) (as := [zI (i3 : Int), zI 3]) dL_isSound_316 rfl kL_113 iX11_house (ci := 11) rfl eX11_house (Nat.le_refl _) hK.1.bk hK.1.bl rfl rfl (Nat.le_of_ble_eq_true rfl) ((show zP1 G mX11_house _ _ σ (cHouseN N (i3 : Int) (nS N)) from qL_house (d := d + 1) hGd hK (by omega) (by omega) (by omega) (by omega))) ?_
                    refine zF_iadd 320 dL_isSound_319 rfl ?_
                    refine zF_istore_n 321 (ls' := [(2, zI ((zsum (fun h => cHouseN N h (nS N)) i3) + (cHouseN N (i3 : Int) (nS N)))), (5, zI (((nF N) : Nat) : Int)), (4, zI (cShN N i3 (nF N))), (3, zI (i3 : Int)), (1, zI (cAllN N (nS N))), (0, zR (B0 0))]) dL_isSound_320 rfl (by decide) rfl ?_
                    refine zF_iinc 324 (ls' := [(3, zI ((i3 : Int) + 1)), (2, zI ((zsum (fun h => cHouseN N h (nS N)) i3) + (cHouseN N (i3 : Int) (nS N)))), (5, zI (((nF N) : Nat) : Int)), (4, zI (cShN N i3 (nF N))), (1, zI (cAllN N (nS N))), (0, zR (B0 0))]) dL_isSound_321 rfl rfl rfl (by decide) rfl ?_
                    refine zF_goto 130 dL_isSound_324 rfl ?_
                    exact zF_locs (ls' := [(3, zI ((i3 + 1 : Nat) : Int)), (2, zI (zsum (fun h => cHouseN N h (nS N)) (i3 + 1))), (1, zI (cAllN N (nS N))), (0, zR (B0 0))]) ⟨zlI rfl (by first | rfl | omega | (push_cast; omega) | exact congrArg (_ + ·) (zbT (by assumption)) | exact congrArg (_ + ·) (zbF (by assumption)) | exact congrArg (_ + ·) (zbT (by omega)) | exact congrArg (_ + ·) (zbF (by omega)) | exact congrArg (_ + ·) (if_pos (by omega)).symm | exact congrArg (_ + ·) (if_neg (by omega)).symm | exact (if_pos (by omega)).symm | exact (if_neg (by omega)).symm | exact zsub_s (if_pos (by omega)).symm | exact zsub_s0 (if_neg (by omega)).symm | exact zadd0 (if_neg (by omega)).symm | exact zadd0 (zbF (by omega)) | exact (Int.sub_zero _).symm), zlI rfl (by first | rfl | omega | (push_cast; omega) | exact congrArg (_ + ·) (zbT (by assumption)) | exact congrArg (_ + ·) (zbF (by assumption)) | exact congrArg (_ + ·) (zbT (by omega)) | exact congrArg (_ + ·) (zbF (by omega)) | exact congrArg (_ + ·) (if_pos (by omega)).symm | exact congrArg (_ + ·) (if_neg (by omega)).symm | exact (if_pos (by omega)).symm | exact (if_neg (by omega)).symm | exact zsub_s (if_pos (by omega)).symm | exact zsub_s0 (if_neg (by omega)).symm | exact zadd0 (if_neg (by omega)).symm | exact zadd0 (zbF (by omega)) | exact (Int.sub_zero _).symm), rfl, rfl, trivial⟩ ih130
                  · refine zF_iconst 311 dL_isSound_310 rfl ?_
                    exact zF_zreturn dL_isSound_311 rfl (by decide) (by exfalso; omega)
            · exact absurd c20 (by omega)
      · show zF G mL_isSound (d + 10) 130 [(3, zI (((nH N) : Nat) : Int)), (2, zI (zsum (fun h => cHouseN N h (nS N)) (nH N))), (1, zI (cAllN N (nS N))), (0, zR (B0 0))] [] σ _
        refine zF_iload_n 131 dL_isSound_130 rfl rfl ?_
        refine zF_aload_n 132 dL_isSound_131 rfl rfl ?_
        refine zF_iconst 133 dL_isSound_132 rfl ?_
        refine zF_callVi 136 (d2 := (d + 9)) (as := [zI 0]) dL_isSound_133 rfl kL_110 iX11_size (ci := 11) rfl eX11_size (Nat.le_refl _) hK.1.bk hK.1.bl rfl rfl (Nat.le_of_ble_eq_true rfl) ((show zP1 G mX11_size _ _ σ (N 0) from qL_size (d := d + 1) hGd hK (by omega) (by omega))) ?_
        refine zF_icmp_ge 327 139 dL_isSound_136 rfl rfl (by first | decide | assumption | exact hK.V.b _ | exact w32_rg _ | (constructor <;> omega)) (by first | decide | assumption | exact hK.V.b _ | exact w32_rg _ | (constructor <;> omega)) (fun c24 => ?_) (fun c24 => ?_)
        · refine zF_iconst 328 dL_isSound_327 rfl ?_
          refine zF_istore_n 329 (ls' := [(3, zI 0), (2, zI (zsum (fun h => cHouseN N h (nS N)) (nH N))), (1, zI (cAllN N (nS N))), (0, zR (B0 0))]) dL_isSound_328 rfl (by decide) rfl ?_
          refine zF_iconst 330 dL_isSound_329 rfl ?_
          refine zF_istore 332 (ls' := [(4, zI 0), (3, zI 0), (2, zI (zsum (fun h => cHouseN N h (nS N)) (nH N))), (1, zI (cAllN N (nS N))), (0, zR (B0 0))]) dL_isSound_330 rfl (by decide) rfl ?_
          refine zF_locs (ls' := (fun (i7 : Nat) => [(4, zI (i7 : Int)), (3, zI (zsum (fun f => cFt N f) i7)), (2, zI (zsum (fun h => cHouseN N h (nS N)) (nH N))), (1, zI (cAllN N (nS N))), (0, zR (B0 0))]) 0) ⟨zlI rfl (by first | rfl | omega | (push_cast; omega) | exact congrArg (_ + ·) (zbT (by assumption)) | exact congrArg (_ + ·) (zbF (by assumption)) | exact congrArg (_ + ·) (zbT (by omega)) | exact congrArg (_ + ·) (zbF (by omega)) | exact congrArg (_ + ·) (if_pos (by omega)).symm | exact congrArg (_ + ·) (if_neg (by omega)).symm | exact (if_pos (by omega)).symm | exact (if_neg (by omega)).symm | exact zsub_s (if_pos (by omega)).symm | exact zsub_s0 (if_neg (by omega)).symm | exact zadd0 (if_neg (by omega)).symm | exact zadd0 (zbF (by omega)) | exact (Int.sub_zero _).symm), zlI rfl (by first | rfl | omega | (push_cast; omega) | exact congrArg (_ + ·) (zbT (by assumption)) | exact congrArg (_ + ·) (zbF (by assumption)) | exact congrArg (_ + ·) (zbT (by omega)) | exact congrArg (_ + ·) (zbF (by omega)) | exact congrArg (_ + ·) (if_pos (by omega)).symm | exact congrArg (_ + ·) (if_neg (by omega)).symm | exact (if_pos (by omega)).symm | exact (if_neg (by omega)).symm | exact zsub_s (if_pos (by omega)).symm | exact zsub_s0 (if_neg (by omega)).symm | exact zadd0 (if_neg (by omega)).symm | exact zadd0 (zbF (by omega)) | exact (Int.sub_zero _).symm), rfl, rfl, rfl, trivial⟩ ?_
          refine zF_loop (n := (nF N)) (fun (i7 : Nat) => [(4, zI (i7 : Int)), (3, zI (zsum (fun f => cFt N f) i7)), (2, zI (zsum (fun h => cHouseN N h (nS N)) (nH N))), (1, zI (cAllN N (nS N))), (0, zR (B0 0))]) (fun _ => σ) (fun i7 hi7 ih332 => ?_) ?_
          · show zF G mL_isSound (d + 10) 332 [(4, zI (i7 : Int)), (3, zI (zsum (fun f => cFt N f) i7)), (2, zI (zsum (fun h => cHouseN N h (nS N)) (nH N))), (1, zI (cAllN N (nS N))), (0, zR (B0 0))] [] σ _
            refine zF_iload 334 dL_isSound_332 rfl rfl ?_
            refine zF_aload_n 335 dL_isSound_334 rfl rfl ?_
            refine zF_iconst 336 dL_isSound_335 rfl ?_
            refine zF_callVi 339 (d2 := (d + 9)) (as := [zI 2]) dL_isSound_336 rfl kL_110 iX11_size (ci := 11) rfl eX11_size (Nat.le_refl _) hK.1.bk hK.1.bl rfl rfl (Nat.le_of_ble_eq_true rfl) ((show zP1 G mX11_size _ _ σ (N 2) from qL_size (d := d + 1) hGd hK (by omega) (by omega))) ?_
            refine zF_icmp_ge 359 342 dL_isSound_339 rfl rfl (by first | decide | assumption | exact hK.V.b _ | exact w32_rg _ | (constructor <;> omega)) (by first | decide | assumption | exact hK.V.b _ | exact w32_rg _ | (constructor <;> omega)) (fun c25 => ?_) (fun c25 => ?_)
            · exact absurd c25 (by omega)
            · refine zF_iload_n 343 dL_isSound_342 rfl rfl ?_
              refine zF_aload_n 344 dL_isSound_343 rfl rfl ?_
              refine zF_iload 346 dL_isSound_344 rfl rfl ?_
              refine zF_bipush 348 dL_isSound_346 rfl (by decide) ?_
              refine zF_callVi 351 (d2 := (d + 9)) (as := [zI (i7 : Int), zI 6]) dL_isSound_348 rfl kL_120 iX11_film (ci := 11) rfl eX11_film (Nat.le_refl _) hK.1.bk hK.1.bl rfl rfl (Nat.le_of_ble_eq_true rfl) ((show zP1 G mX11_film _ _ σ (cFt N (i7 : Int)) from qL_film (d := d + 1) hGd hK (by omega) (by omega) (by omega) (by omega))) ?_
              refine zF_iadd 352 dL_isSound_351 rfl ?_
              refine zF_istore_n 353 (ls' := [(3, zI ((zsum (fun f => cFt N f) i7) + (cFt N (i7 : Int)))), (4, zI (i7 : Int)), (2, zI (zsum (fun h => cHouseN N h (nS N)) (nH N))), (1, zI (cAllN N (nS N))), (0, zR (B0 0))]) dL_isSound_352 rfl (by decide) rfl ?_
              refine zF_iinc 356 (ls' := [(4, zI ((i7 : Int) + 1)), (3, zI ((zsum (fun f => cFt N f) i7) + (cFt N (i7 : Int)))), (2, zI (zsum (fun h => cHouseN N h (nS N)) (nH N))), (1, zI (cAllN N (nS N))), (0, zR (B0 0))]) dL_isSound_353 rfl rfl rfl (by decide) rfl ?_
              refine zF_goto 332 dL_isSound_356 rfl ?_
              exact zF_locs (ls' := [(4, zI ((i7 + 1 : Nat) : Int)), (3, zI (zsum (fun f => cFt N f) (i7 + 1))), (2, zI (zsum (fun h => cHouseN N h (nS N)) (nH N))), (1, zI (cAllN N (nS N))), (0, zR (B0 0))]) ⟨zlI rfl (by first | rfl | omega | (push_cast; omega) | exact congrArg (_ + ·) (zbT (by assumption)) | exact congrArg (_ + ·) (zbF (by assumption)) | exact congrArg (_ + ·) (zbT (by omega)) | exact congrArg (_ + ·) (zbF (by omega)) | exact congrArg (_ + ·) (if_pos (by omega)).symm | exact congrArg (_ + ·) (if_neg (by omega)).symm | exact (if_pos (by omega)).symm | exact (if_neg (by omega)).symm | exact zsub_s (if_pos (by omega)).symm | exact zsub_s0 (if_neg (by omega)).symm | exact zadd0 (if_neg (by omega)).symm | exact zadd0 (zbF (by omega)) | exact (Int.sub_zero _).symm), zlI rfl (by first | rfl | omega | (push_cast; omega) | exact congrArg (_ + ·) (zbT (by assumption)) | exact congrArg (_ + ·) (zbF (by assumption)) | exact congrArg (_ + ·) (zbT (by omega)) | exact congrArg (_ + ·) (zbF (by omega)) | exact congrArg (_ + ·) (if_pos (by omega)).symm | exact congrArg (_ + ·) (if_neg (by omega)).symm | exact (if_pos (by omega)).symm | exact (if_neg (by omega)).symm | exact zsub_s (if_pos (by omega)).symm | exact zsub_s0 (if_neg (by omega)).symm | exact zadd0 (if_neg (by omega)).symm | exact zadd0 (zbF (by omega)) | exact (Int.sub_zero _).symm), rfl, rfl, rfl, trivial⟩ ih332
          · show zF G mL_isSound (d + 10) 332 [(4, zI (((nF N) : Nat) : Int)), (3, zI (zsum (fun f => cFt N f) (nF N))), (2, zI (zsum (fun h => cHouseN N h (nS N)) (nH N))), (1, zI (cAllN N (nS N))), (0, zR (B0 0))] [] σ _
            refine zF_iload 334 dL_isSound_332 rfl rfl ?_
            refine zF_aload_n 335 dL_isSound_334 rfl rfl ?_
            refine zF_iconst 336 dL_isSound_335 rfl ?_
            refine zF_callVi 339 (d2 := (d + 9)) (as := [zI 2]) dL_isSound_336 rfl kL_110 iX11_size (ci := 11) rfl eX11_size (Nat.le_refl _) hK.1.bk hK.1.bl rfl rfl (Nat.le_of_ble_eq_true rfl) ((show zP1 G mX11_size _ _ σ (N 2) from qL_size (d := d + 1) hGd hK (by omega) (by omega))) ?_
            refine zF_icmp_ge 359 342 dL_isSound_339 rfl rfl (by first | decide | assumption | exact hK.V.b _ | exact w32_rg _ | (constructor <;> omega)) (by first | decide | assumption | exact hK.V.b _ | exact w32_rg _ | (constructor <;> omega)) (fun c26 => ?_) (fun c26 => ?_)
            · have e1 := cHouse_all hK.V hK.W
              have e2 := cFt_all hK.V hK.W
              have e3 := cAll_b hK.V (nS N) (Nat.le_refl _)
              have e4 : sTotal N 4 = N (208 + 0) - N (208 + 1) - N (208 + 2) - N (208 + 3) := rfl
              have a0 := hK.mq.a 0 (by omega) (by omega)
              have a1 := hK.mq.a 1 (by omega) (by omega)
              have a2 := hK.mq.a 2 (by omega) (by omega)
              have a3 := hK.mq.a 3 (by omega) (by omega)
              refine zF_iload_n 360 dL_isSound_359 rfl rfl ?_
              refine zF_iload_n 361 dL_isSound_360 rfl rfl ?_
              refine zF_icmp_ne 369 364 dL_isSound_361 rfl rfl (by first | decide | assumption | exact hK.V.b _ | exact w32_rg _ | (constructor <;> omega)) (by first | decide | assumption | exact hK.V.b _ | exact w32_rg _ | (constructor <;> omega)) (fun c27 => ?_) (fun c27 => ?_)
              · refine zF_iconst 370 dL_isSound_369 rfl ?_
                exact zF_zreturn dL_isSound_370 rfl (by decide) (by exfalso; omega)
              · refine zF_iload_n 365 dL_isSound_364 rfl rfl ?_
                refine zF_iload_n 366 dL_isSound_365 rfl rfl ?_
                refine zF_icmp_eq 371 369 dL_isSound_366 rfl rfl (by first | decide | assumption | exact hK.V.b _ | exact w32_rg _ | (constructor <;> omega)) (by first | decide | assumption | exact hK.V.b _ | exact w32_rg _ | (constructor <;> omega)) (fun c28 => ?_) (fun c28 => ?_)
                · refine zF_aload_n 372 dL_isSound_371 rfl rfl ?_
                  refine zF_iconst 373 dL_isSound_372 rfl ?_
                  refine zF_callVi 376 (d2 := (d + 9)) (as := [zI 4]) dL_isSound_373 rfl kL_134 iX11_total (ci := 11) rfl eX11_total (Nat.le_refl _) hK.1.bk hK.1.bl rfl rfl (Nat.le_of_ble_eq_true rfl) ((show zP1 G mX11_total _ _ σ (sTotal N 4) from qL_total (d := d + 1) hGd hK (by omega) (by omega))) ?_
                  refine zF_aload_n 377 dL_isSound_376 rfl rfl ?_
                  refine zF_iconst 378 dL_isSound_377 rfl ?_
                  refine zF_callVi 381 (d2 := (d + 9)) (as := [zI 0]) dL_isSound_378 rfl kL_134 iX11_total (ci := 11) rfl eX11_total (Nat.le_refl _) hK.1.bk hK.1.bl rfl rfl (Nat.le_of_ble_eq_true rfl) ((show zP1 G mX11_total _ _ σ (N (208 + 0)) from qL_total (d := d + 1) hGd hK (by omega) (by omega))) ?_
                  refine zF_aload_n 382 dL_isSound_381 rfl rfl ?_
                  refine zF_iconst 383 dL_isSound_382 rfl ?_
                  refine zF_callVi 386 (d2 := (d + 9)) (as := [zI 1]) dL_isSound_383 rfl kL_134 iX11_total (ci := 11) rfl eX11_total (Nat.le_refl _) hK.1.bk hK.1.bl rfl rfl (Nat.le_of_ble_eq_true rfl) ((show zP1 G mX11_total _ _ σ (N (208 + 1)) from qL_total (d := d + 1) hGd hK (by omega) (by omega))) ?_
                  refine zF_isub 387 dL_isSound_386 rfl ?_
                  refine zF_aload_n 388 dL_isSound_387 rfl rfl ?_
                  refine zF_iconst 389 dL_isSound_388 rfl ?_
                  refine zF_callVi 392 (d2 := (d + 9)) (as := [zI 2]) dL_isSound_389 rfl kL_134 iX11_total (ci := 11) rfl eX11_total (Nat.le_refl _) hK.1.bk hK.1.bl rfl rfl (Nat.le_of_ble_eq_true rfl) ((show zP1 G mX11_total _ _ σ (N (208 + 2)) from qL_total (d := d + 1) hGd hK (by omega) (by omega))) ?_
                  refine zF_isub 393 dL_isSound_392 rfl ?_
                  refine zF_aload_n 394 dL_isSound_393 rfl rfl ?_
                  refine zF_iconst 395 dL_isSound_394 rfl ?_
                  refine zF_callVi 398 (d2 := (d + 9)) (as := [zI 3]) dL_isSound_395 rfl kL_134 iX11_total (ci := 11) rfl eX11_total (Nat.le_refl _) hK.1.bk hK.1.bl rfl rfl (Nat.le_of_ble_eq_true rfl) ((show zP1 G mX11_total _ _ σ (N (208 + 3)) from qL_total (d := d + 1) hGd hK (by omega) (by omega))) ?_
                  refine zF_isub 399 dL_isSound_398 rfl ?_
                  rw [show sTotal N 4 = ((((N (208 + 0)) - (N (208 + 1))) - (N (208 + 2))) - (N (208 + 3))) from rfl]
                  refine zF_Iw2 ?_
                  refine zF_icmp_ne 413 402 dL_isSound_399 rfl rfl (by first | decide | assumption | exact hK.V.b _ | exact w32_rg _ | (constructor <;> omega)) (by first | decide | assumption | exact hK.V.b _ | exact w32_rg _ | (constructor <;> omega)) (fun c29 => ?_) (fun c29 => ?_)
                  · refine zF_iconst 414 dL_isSound_413 rfl ?_
                    exact zF_zreturn dL_isSound_414 rfl (by decide) (by exfalso; omega)
                  · refine zF_aload_n 403 dL_isSound_402 rfl rfl ?_
                    refine zF_callS 406 (d2 := (d + 9)) (as := [zR (B0 0)]) dL_isSound_403 rfl kL_203 sL_areRanked (Nat.le_refl _) rfl rfl (Nat.le_of_ble_eq_true rfl) (zE.mono (zt_L_areRanked (d := d + 0) hGd hK) fun ro σs403 hh403 => ?_)
                    obtain ⟨er403, fr403⟩ := hh403
                    subst er403
                    refine ⟨fr403.1, ?_⟩
                    have K403 := cK_sc hK fr403
                    have F403 := fr403
                    show zF G mL_isSound (d + 10) 406 [(4, zI (((nF N) : Nat) : Int)), (3, zI (zsum (fun f => cFt N f) (nF N))), (2, zI (zsum (fun h => cHouseN N h (nS N)) (nH N))), (1, zI (cAllN N (nS N))), (0, zR (B0 0))] [zI 1] σs403 _
                    refine zF_if_eq 413 409 dL_isSound_406 rfl rfl (by first | decide | assumption | exact hK.V.b _ | exact w32_rg _ | (constructor <;> omega)) (fun c30 => ?_) (fun c30 => ?_)
                    · exact absurd c30 (by decide)
                    · refine zF_iconst 410 dL_isSound_409 rfl ?_
                      refine zF_goto 414 dL_isSound_410 rfl ?_
                      exact zF_zreturn dL_isSound_414 rfl (by decide) (⟨rfl, F403⟩)
                · refine zF_iconst 370 dL_isSound_369 rfl ?_
                  exact zF_zreturn dL_isSound_370 rfl (by decide) (by exfalso; omega)
            · exact absurd c26 (by omega)
        · exact absurd c24 (by omega)
    · exact absurd c9 (by omega)
end ZQ4

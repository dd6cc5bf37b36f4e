/-! a week closed and taken back -/
section ZQ6
variable {G : zG} {M : zMeth} {d pc : Nat} {ls : List (Nat × zV)} {st : List zV} {σ σ1 : zMem} {Q : zRes → zMem → Prop} {E : Nat → Nat} {N : Int → Int} {T : Int} {as : List zV} {H : Int → Int → Int} {u : Int}
def w64 (z : Int) : Int := (Int64.ofInt z).toInt
theorem w64_rg (z : Int) : zrgL (w64 z) := ⟨Int64.minValue_le_toInt _, Int64.toInt_lt _⟩
theorem zF_Lw2 {a b : Int} (kk : zF G M d pc ls (zL (w64 b) :: zL (w64 a) :: st) σ Q) : zF G M d pc ls (zL b :: zL a :: st) σ Q := by
  obtain ⟨r, σ', hq, hu, hS⟩ := kk
  refine ⟨r, σ', hq, hu, fun ρ p e R s m args below meth c hC H locs cells slots lsA hSt h1 h2 => ?_⟩
  have k := hS ρ p e R s m args below meth c hC H locs cells slots lsA hSt h1 h2
  have e1 : (zL (w64 b) :: zL (w64 a) :: st).map (ztr ρ) = (zL b :: zL a :: st).map (ztr ρ) := by
    show Value.long (Int64.ofInt (w64 b)) :: Value.long (Int64.ofInt (w64 a)) :: _ = Value.long (Int64.ofInt b) :: Value.long (Int64.ofInt a) :: _
    unfold w64
    rw [Int64.ofInt_toInt, Int64.ofInt_toInt]
  rw [e1] at k
  exact k
theorem zlcm_self (a : Int) : zlcm a a = 0 := by
  unfold zlcm
  rw [if_neg (by omega), if_pos rfl]
theorem hFl_or (s : Int) : (zb (mHold N s) = 1 ∧ hFl N s = mSh N s 6) ∨ (zb (mHold N s) = 0 ∧ hFl N s = -1) := by
  unfold hFl
  by_cases c : mHold N s
  · rw [if_pos c, ← zbT c]; exact Or.inl ⟨rfl, rfl⟩
  · rw [if_neg c, ← zbF c]; exact Or.inr ⟨rfl, rfl⟩
set_option maxRecDepth 20000 in
theorem zt_L_isClosed  (hGd : zGd G) (hL : cL T (N, H, u) σ) (hT : T ≤ 20000) (hu : u < 10) (hbg : zn σ + 3 < zbg) : zE G mL_isClosed (d + 11) [zR (B0 0)] σ (fun ro σ1 => ro = .inl (some (zI 1)) ∧ zMu (zn σ) σ σ1 ∧ zB σ σ1 3 ∧ ∃ H', cL T (N, H', u) σ1 ∧ ∀ k, 0 ≤ k → k < u → H' k = H k) := by
  refine zE_of rfl (by simp [zcat]) (Nat.le_of_ble_eq_true rfl) ?_
  show zF G mL_isClosed (d + 11) 0 [(0, zR (B0 0))] [] σ _
  have hK : cK T N σ := hL.K
  have hn := hK.V.n
  have hs := nS_eq hK.V
  have hh := nH_eq hK.V
  have hf := nF_eq hK.V
  have h228 : 228 ≤ zn σ := hL.1.1
  have u0 : 0 ≤ u := hL.2.2.1.2.1.1
  refine zF_aload_n 1 dL_isClosed_0 rfl rfl ?_
  refine zF_iconst 2 dL_isClosed_1 rfl ?_
  refine zF_callVi 5 (d2 := (d + 10)) (as := [zI 3]) dL_isClosed_2 rfl kL_110 iX11_size (ci := 11) rfl eX11_size (Nat.le_refl _) hL.1.bk hL.1.bl rfl rfl (Nat.le_of_ble_eq_true rfl) ((show zP1 G mX11_size _ _ σ (N 3) from qL_size (d := d + 2) hGd hK (by omega) (by omega))) ?_
  refine zF_bipush 7 dL_isClosed_5 rfl (by decide) ?_
  refine zF_icmp_ne 25 10 dL_isClosed_7 rfl rfl (by first | decide | assumption | exact hK.V.b _ | exact w32_rg _ | (constructor <;> omega)) (by first | decide | assumption | exact hK.V.b _ | exact w32_rg _ | (constructor <;> omega)) (fun c1 => ?_) (fun c1 => ?_)
  · refine zF_aload_n 26 dL_isClosed_25 rfl rfl ?_
    refine zF_callS 29 (d2 := (d + 10)) (as := [zR (B0 0)]) dL_isClosed_26 rfl kL_210 sL_all (Nat.le_refl _) rfl rfl (Nat.le_of_ble_eq_true rfl) (zE.mono (zt_L_all (d := d + 1) hGd hK) fun ro σx26 hh26 => ?_)
    obtain ⟨es26, er26⟩ := hh26
    replace es26 := es26.symm
    subst es26
    subst er26
    refine ⟨rfl, ?_⟩
    show zF G mL_isClosed (d + 11) 29 [(0, zR (B0 0))] [zL (aV N)] σ _
    refine zF_lstore_n 30 (ls' := [(1, zL (aV N)), (0, zR (B0 0))]) dL_isClosed_29 rfl (by decide) rfl ?_
    refine zF_aload_n 31 dL_isClosed_30 rfl rfl ?_
    refine zF_iconst 32 dL_isClosed_31 rfl ?_
    refine zF_callVi 35 (d2 := (d + 10)) (as := [zI 1]) dL_isClosed_32 rfl kL_110 iX11_size (ci := 11) rfl eX11_size (Nat.le_refl _) hL.1.bk hL.1.bl rfl rfl (Nat.le_of_ble_eq_true rfl) ((show zP1 G mX11_size _ _ σ (N 1) from qL_size (d := d + 2) hGd hK (by omega) (by omega))) ?_
    refine zF_istore_n 36 (ls' := [(3, zI (N 1)), (1, zL (aV N)), (0, zR (B0 0))]) dL_isClosed_35 rfl (by decide) rfl ?_
    refine zF_iload_n 37 dL_isClosed_36 rfl rfl ?_
    refine zF_newarray 39 dL_isClosed_37 rfl (Or.inr (Or.inr (Or.inl ⟨rfl, rfl⟩))) (zi6 83 rfl rfl) (by omega) (by omega) (by omega) (zwl_q (by exact (⟨trivial, trivial, zwR hL.1.bl, trivial⟩ : _ ∧ _ ∧ _ ∧ True))) (zwl_m (by exact trivial)) ?_
    show zF G mL_isClosed (d + 11) 39 [(3, zI (N 1)), (1, zL (aV N)), (0, zR (B0 0))] [zR (zn σ)] (znw σ 3 (nS N) (nS N)) _
    refine zF_astore 41 (ls' := [(4, zR (zn σ)), (3, zI (N 1)), (1, zL (aV N)), (0, zR (B0 0))]) dL_isClosed_39 rfl (by decide) rfl ?_
    refine zF_iload_n 42 dL_isClosed_41 rfl rfl ?_
    refine zF_newarray 44 dL_isClosed_42 rfl (Or.inl ⟨rfl, rfl⟩) (zi1 152 rfl rfl) (by omega) (by omega) (by rw [zn_nw]; omega) (zwl_q (by exact (⟨zwR (show (zn σ) < zn (znw σ 3 (nS N) (nS N)) by rw [zn_nw]; omega), trivial, trivial, zwR (hL.gx (zGx.rf.nw (Nat.le_refl _) (by omega)) h228).1.bl, trivial⟩ : _ ∧ _ ∧ _ ∧ _ ∧ True))) (zwl_m (by exact trivial)) ?_
    show zF G mL_isClosed (d + 11) 44 [(4, zR (zn σ)), (3, zI (N 1)), (1, zL (aV N)), (0, zR (B0 0))] [zR (zn (znw σ 3 (nS N) (nS N)))] (znw (znw σ 3 (nS N) (nS N)) 1 (nS N) (nS N)) _
    show zF G mL_isClosed (d + 11) 44 [(4, zR (zn σ)), (3, zI (N 1)), (1, zL (aV N)), (0, zR (B0 0))] [zR (zn σ + 1)] (znw (znw σ 3 (nS N) (nS N)) 1 (nS N) (nS N)) _
    show zF G mL_isClosed (d + 11) 44 [(4, zR (zn σ)), (3, zI (N 1)), (1, zL (aV N)), (0, zR (B0 0))] [zR (zn σ + 1)] (znw (znw σ 3 (nS N) (nS N)) 1 (nS N) (nS N)) _
    refine zF_astore 46 (ls' := [(5, zR (zn σ + 1)), (4, zR (zn σ)), (3, zI (N 1)), (1, zL (aV N)), (0, zR (B0 0))]) dL_isClosed_44 rfl (by decide) rfl ?_
    refine zF_iconst 47 dL_isClosed_46 rfl ?_
    refine zF_istore 49 (ls' := [(6, zI 0), (5, zR (zn σ + 1)), (4, zR (zn σ)), (3, zI (N 1)), (1, zL (aV N)), (0, zR (B0 0))]) dL_isClosed_47 rfl (by decide) rfl ?_
    refine zF_iconst 50 dL_isClosed_49 rfl ?_
    refine zF_istore 52 (ls' := [(7, zI 0), (6, zI 0), (5, zR (zn σ + 1)), (4, zR (zn σ)), (3, zI (N 1)), (1, zL (aV N)), (0, zR (B0 0))]) dL_isClosed_50 rfl (by decide) rfl ?_
    refine zF_iconst 53 dL_isClosed_52 rfl ?_
    refine zF_istore 55 (ls' := [(8, zI 0), (7, zI 0), (6, zI 0), (5, zR (zn σ + 1)), (4, zR (zn σ)), (3, zI (N 1)), (1, zL (aV N)), (0, zR (B0 0))]) dL_isClosed_53 rfl (by decide) rfl ?_
    refine zF_iconst 56 dL_isClosed_55 rfl ?_
    refine zF_istore 58 (ls' := [(9, zI 0), (8, zI 0), (7, zI 0), (6, zI 0), (5, zR (zn σ + 1)), (4, zR (zn σ)), (3, zI (N 1)), (1, zL (aV N)), (0, zR (B0 0))]) dL_isClosed_56 rfl (by decide) rfl ?_
    refine zF_locs (ls' := [(9, zI ((0 : Nat) : Int)), (8, zI (zsum (fun s => mS N s 3) 0)), (7, zI 0), (6, zI (cAllN N 0)), (5, zR (zn σ + 1)), (4, zR (zn σ)), (3, zI (N 1)), (1, zL (aV N)), (0, zR (B0 0))]) ⟨zlI rfl (by first | rfl | omega | (push_cast; omega) | exact congrArg (_ + ·) (zbT (by assumption)) | exact congrArg (_ + ·) (zbF (by assumption)) | exact congrArg (_ + ·) (zbT (by omega)) | exact congrArg (_ + ·) (zbF (by omega)) | exact congrArg (_ + ·) (if_pos (by omega)).symm | exact congrArg (_ + ·) (if_neg (by omega)).symm | exact (if_pos (by omega)).symm | exact (if_neg (by omega)).symm | exact zsub_s (if_pos (by omega)).symm | exact zsub_s0 (if_neg (by omega)).symm | exact zadd0 (if_neg (by omega)).symm | exact zadd0 (zbF (by omega)) | exact (Int.sub_zero _).symm), zlI rfl (by first | rfl | omega | (push_cast; omega) | exact congrArg (_ + ·) (zbT (by assumption)) | exact congrArg (_ + ·) (zbF (by assumption)) | exact congrArg (_ + ·) (zbT (by omega)) | exact congrArg (_ + ·) (zbF (by omega)) | exact congrArg (_ + ·) (if_pos (by omega)).symm | exact congrArg (_ + ·) (if_neg (by omega)).symm | exact (if_pos (by omega)).symm | exact (if_neg (by omega)).symm | exact zsub_s (if_pos (by omega)).symm | exact zsub_s0 (if_neg (by omega)).symm | exact zadd0 (if_neg (by omega)).symm | exact zadd0 (zbF (by omega)) | exact (Int.sub_zero _).symm), rfl, zlI rfl (by first | rfl | omega | (push_cast; omega) | exact congrArg (_ + ·) (zbT (by assumption)) | exact congrArg (_ + ·) (zbF (by assumption)) | exact congrArg (_ + ·) (zbT (by omega)) | exact congrArg (_ + ·) (zbF (by omega)) | exact congrArg (_ + ·) (if_pos (by omega)).symm | exact congrArg (_ + ·) (if_neg (by omega)).symm | exact (if_pos (by omega)).symm | exact (if_neg (by omega)).symm | exact zsub_s (if_pos (by omega)).symm | exact zsub_s0 (if_neg (by omega)).symm | exact zadd0 (if_neg (by omega)).symm | exact zadd0 (zbF (by omega)) | exact (Int.sub_zero _).symm), rfl, rfl, rfl, rfl, rfl, trivial⟩ ?_
    refine zF_while (X := Nat) (fun x => nS N - x) (fun x σ58 => x ≤ nS N ∧ zGx (zn σ) σ σ58 ∧ (zn σ58 = zn σ + 2 ∧ zcs σ58 = zcs σ + 2 ∧ zss σ58 = zss σ + 2 * nS N) ∧ zkd σ58 (zn σ) = (3, nS N) ∧ zkd σ58 (zn σ + 1) = (1, nS N) ∧ (∀ i : Nat, i < x → zia σ58 (zn σ) (i : Int) = zb (mHold N i)) ∧ ∀ i : Nat, i < x → zia σ58 (zn σ + 1) (i : Int) = mSh N i 6) (fun x => [(9, zI ((x : Nat) : Int)), (8, zI (zsum (fun s => mS N s 3) x)), (7, zI 0), (6, zI (cAllN N x)), (5, zR (zn σ + 1)), (4, zR (zn σ)), (3, zI (N 1)), (1, zL (aV N)), (0, zR (B0 0))]) ?_ 0 (znw (znw σ 3 (nS N) (nS N)) 1 (nS N) (nS N)) (⟨by omega, ((zGx.rf.nw (Nat.le_refl _) (by omega)).nw (by rw [zn_nw]; omega) (by rw [zn_nw]; omega)), ⟨rfl, rfl, by show zss σ + nS N + nS N = _; omega⟩, (by show zkd (znw (znw σ 3 (nS N) (nS N)) 1 (nS N) (nS N)) (zn σ) = (3, (nS N)); rw [zkd_nw, if_neg (by first | omega | (rw [zn_nw]; omega))]; exact (by show zkd (znw σ 3 (nS N) (nS N)) (zn σ) = (3, (nS N)); rw [zkd_nw, if_pos (by first | omega | rw [zn_nw])])), (by show zkd (znw (znw σ 3 (nS N) (nS N)) 1 (nS N) (nS N)) (zn σ + 1) = (1, (nS N)); rw [zkd_nw, if_pos (by first | omega | rw [zn_nw])]), fun i hi => absurd hi (by omega), fun i hi => absurd hi (by omega)⟩)
    intro x σ58 hI58 ih58
    show zF G mL_isClosed (d + 11) 58 [(9, zI ((x : Nat) : Int)), (8, zI (zsum (fun s => mS N s 3) x)), (7, zI 0), (6, zI (cAllN N x)), (5, zR (zn σ + 1)), (4, zR (zn σ)), (3, zI (N 1)), (1, zL (aV N)), (0, zR (B0 0))] [] σ58 _
    obtain ⟨hx, g58, ⟨n58, cs58, ss58⟩, k1, k2, q1, q2⟩ := hI58
    have L58 := hL.gx g58 h228
    have K58 : cK T N σ58 := L58.K
    refine zF_iload 60 dL_isClosed_58 rfl rfl ?_
    refine zF_iload_n 61 dL_isClosed_60 rfl rfl ?_
    refine zF_icmp_ge 119 64 dL_isClosed_61 rfl rfl (by first | decide | assumption | exact hK.V.b _ | exact w32_rg _ | (constructor <;> omega)) (by first | decide | assumption | exact hK.V.b _ | exact w32_rg _ | (constructor <;> omega)) (fun c2 => ?_) (fun c2 => ?_)
    · have ex : x = nS N := by omega
      subst ex
      refine zF_iconst 120 dL_isClosed_119 rfl ?_
      refine zF_istore 122 (ls' := [(9, zI 0), (8, zI (zsum (fun s => mS N s 3) (nS N))), (7, zI 0), (6, zI (cAllN N (nS N))), (5, zR (zn σ + 1)), (4, zR (zn σ)), (3, zI (N 1)), (1, zL (aV N)), (0, zR (B0 0))]) dL_isClosed_120 rfl (by decide) rfl ?_
      refine zF_locs (ls' := (fun (i2 : Nat) => [(9, zI (i2 : Int)), (8, zI (zsum (fun s => mS N s 3) (nS N))), (7, zI (zsum (fun h => cShN N h (nF N)) i2)), (6, zI (cAllN N (nS N))), (5, zR (zn σ + 1)), (4, zR (zn σ)), (3, zI (N 1)), (1, zL (aV N)), (0, zR (B0 0))]) 0) ⟨zlI rfl (by first | rfl | omega | (push_cast; omega) | exact congrArg (_ + ·) (zbT (by assumption)) | exact congrArg (_ + ·) (zbF (by assumption)) | exact congrArg (_ + ·) (zbT (by omega)) | exact congrArg (_ + ·) (zbF (by omega)) | exact congrArg (_ + ·) (if_pos (by omega)).symm | exact congrArg (_ + ·) (if_neg (by omega)).symm | exact (if_pos (by omega)).symm | exact (if_neg (by omega)).symm | exact zsub_s (if_pos (by omega)).symm | exact zsub_s0 (if_neg (by omega)).symm | exact zadd0 (if_neg (by omega)).symm | exact zadd0 (zbF (by omega)) | exact (Int.sub_zero _).symm), rfl, zlI rfl (by first | rfl | omega | (push_cast; omega) | exact congrArg (_ + ·) (zbT (by assumption)) | exact congrArg (_ + ·) (zbF (by assumption)) | exact congrArg (_ + ·) (zbT (by omega)) | exact congrArg (_ + ·) (zbF (by omega)) | exact congrArg (_ + ·) (if_pos (by omega)).symm | exact congrArg (_ + ·) (if_neg (by omega)).symm | exact (if_pos (by omega)).symm | exact (if_neg (by omega)).symm | exact zsub_s (if_pos (by omega)).symm | exact zsub_s0 (if_neg (by omega)).symm | exact zadd0 (if_neg (by omega)).symm | exact zadd0 (zbF (by omega)) | exact (Int.sub_zero _).symm), rfl, rfl, rfl, rfl, rfl, rfl, trivial⟩ ?_
      refine zF_loop (n := (nH N)) (fun (i2 : Nat) => [(9, zI (i2 : Int)), (8, zI (zsum (fun s => mS N s 3) (nS N))), (7, zI (zsum (fun h => cShN N h (nF N)) i2)), (6, zI (cAllN N (nS N))), (5, zR (zn σ + 1)), (4, zR (zn σ)), (3, zI (N 1)), (1, zL (aV N)), (0, zR (B0 0))]) (fun _ => σ58) (fun i2 hi2 ih122 => ?_) ?_
      · show zF G mL_isClosed (d + 11) 122 [(9, zI (i2 : Int)), (8, zI (zsum (fun s => mS N s 3) (nS N))), (7, zI (zsum (fun h => cShN N h (nF N)) i2)), (6, zI (cAllN N (nS N))), (5, zR (zn σ + 1)), (4, zR (zn σ)), (3, zI (N 1)), (1, zL (aV N)), (0, zR (B0 0))] [] σ58 _
        refine zF_iload 124 dL_isClosed_122 rfl rfl ?_
        refine zF_aload_n 125 dL_isClosed_124 rfl rfl ?_
        refine zF_iconst 126 dL_isClosed_125 rfl ?_
        refine zF_callVi 129 (d2 := (d + 10)) (as := [zI 0]) dL_isClosed_126 rfl kL_110 iX11_size (ci := 11) rfl eX11_size (Nat.le_refl _) L58.1.bk L58.1.bl rfl rfl (Nat.le_of_ble_eq_true rfl) ((show zP1 G mX11_size _ _ σ58 (N 0) from qL_size (d := d + 2) hGd K58 (by omega) (by omega))) ?_
        refine zF_icmp_ge 150 132 dL_isClosed_129 rfl rfl (by first | decide | assumption | exact hK.V.b _ | exact w32_rg _ | (constructor <;> omega)) (by first | decide | assumption | exact hK.V.b _ | exact w32_rg _ | (constructor <;> omega)) (fun c3 => ?_) (fun c3 => ?_)
        · exact absurd c3 (by omega)
        · refine zF_iload 134 dL_isClosed_132 rfl rfl ?_
          refine zF_aload_n 135 dL_isClosed_134 rfl rfl ?_
          refine zF_iload 137 dL_isClosed_135 rfl rfl ?_
          refine zF_iconst 138 dL_isClosed_137 rfl ?_
          refine zF_callVi 141 (d2 := (d + 10)) (as := [zI (i2 : Int), zI 4]) dL_isClosed_138 rfl kL_113 iX11_house (ci := 11) rfl eX11_house (Nat.le_refl _) L58.1.bk L58.1.bl rfl rfl (Nat.le_of_ble_eq_true rfl) ((show zP1 G mX11_house _ _ σ58 (cShN N (i2 : Int) (nF N)) from qL_house (d := d + 2) hGd K58 (by omega) (by omega) (by omega) (by omega))) ?_
          refine zF_iadd 142 dL_isClosed_141 rfl ?_
          refine zF_istore 144 (ls' := [(7, zI ((zsum (fun h => cShN N h (nF N)) i2) + (cShN N (i2 : Int) (nF N)))), (9, zI (i2 : Int)), (8, zI (zsum (fun s => mS N s 3) (nS N))), (6, zI (cAllN N (nS N))), (5, zR (zn σ + 1)), (4, zR (zn σ)), (3, zI (N 1)), (1, zL (aV N)), (0, zR (B0 0))]) dL_isClosed_142 rfl (by decide) rfl ?_
          refine zF_iinc 147 (ls' := [(9, zI ((i2 : Int) + 1)), (7, zI ((zsum (fun h => cShN N h (nF N)) i2) + (cShN N (i2 : Int) (nF N)))), (8, zI (zsum (fun s => mS N s 3) (nS N))), (6, zI (cAllN N (nS N))), (5, zR (zn σ + 1)), (4, zR (zn σ)), (3, zI (N 1)), (1, zL (aV N)), (0, zR (B0 0))]) dL_isClosed_144 rfl rfl rfl (by decide) rfl ?_
          refine zF_goto 122 dL_isClosed_147 rfl ?_
          exact zF_locs (ls' := [(9, zI ((i2 + 1 : Nat) : Int)), (8, zI (zsum (fun s => mS N s 3) (nS N))), (7, zI (zsum (fun h => cShN N h (nF N)) (i2 + 1))), (6, zI (cAllN N (nS N))), (5, zR (zn σ + 1)), (4, zR (zn σ)), (3, zI (N 1)), (1, zL (aV N)), (0, zR (B0 0))]) ⟨zlI rfl (by first | rfl | omega | (push_cast; omega) | exact congrArg (_ + ·) (zbT (by assumption)) | exact congrArg (_ + ·) (zbF (by assumption)) | exact congrArg (_ + ·) (zbT (by omega)) | exact congrArg (_ + ·) (zbF (by omega)) | exact congrArg (_ + ·) (if_pos (by omega)).symm | exact congrArg (_ + ·) (if_neg (by omega)).symm | exact (if_pos (by omega)).symm | exact (if_neg (by omega)).symm | exact zsub_s (if_pos (by omega)).symm | exact zsub_s0 (if_neg (by omega)).symm | exact zadd0 (if_neg (by omega)).symm | exact zadd0 (zbF (by omega)) | exact (Int.sub_zero _).symm), rfl, zlI rfl (by first | rfl | omega | (push_cast; omega) | exact congrArg (_ + ·) (zbT (by assumption)) | exact congrArg (_ + ·) (zbF (by assumption)) | exact congrArg (_ + ·) (zbT (by omega)) | exact congrArg (_ + ·) (zbF (by omega)) | exact congrArg (_ + ·) (if_pos (by omega)).symm | exact congrArg (_ + ·) (if_neg (by omega)).symm | exact (if_pos (by omega)).symm | exact (if_neg (by omega)).symm | exact zsub_s (if_pos (by omega)).symm | exact zsub_s0 (if_neg (by omega)).symm | exact zadd0 (if_neg (by omega)).symm | exact zadd0 (zbF (by omega)) | exact (Int.sub_zero _).symm), rfl, rfl, rfl, rfl, rfl, rfl, trivial⟩ ih122
      · show zF G mL_isClosed (d + 11) 122 [(9, zI (((nH N) : Nat) : Int)), (8, zI (zsum (fun s => mS N s 3) (nS N))), (7, zI (zsum (fun h => cShN N h (nF N)) (nH N))), (6, zI (cAllN N (nS N))), (5, zR (zn σ + 1)), (4, zR (zn σ)), (3, zI (N 1)), (1, zL (aV N)), (0, zR (B0 0))] [] σ58 _
        refine zF_iload 124 dL_isClosed_122 rfl rfl ?_
        refine zF_aload_n 125 dL_isClosed_124 rfl rfl ?_
        refine zF_iconst 126 dL_isClosed_125 rfl ?_
        refine zF_callVi 129 (d2 := (d + 10)) (as := [zI 0]) dL_isClosed_126 rfl kL_110 iX11_size (ci := 11) rfl eX11_size (Nat.le_refl _) L58.1.bk L58.1.bl rfl rfl (Nat.le_of_ble_eq_true rfl) ((show zP1 G mX11_size _ _ σ58 (N 0) from qL_size (d := d + 2) hGd K58 (by omega) (by omega))) ?_
        refine zF_icmp_ge 150 132 dL_isClosed_129 rfl rfl (by first | decide | assumption | exact hK.V.b _ | exact w32_rg _ | (constructor <;> omega)) (by first | decide | assumption | exact hK.V.b _ | exact w32_rg _ | (constructor <;> omega)) (fun c4 => ?_) (fun c4 => ?_)
        · refine zF_iconst 151 dL_isClosed_150 rfl ?_
          refine zF_newarray 153 dL_isClosed_151 rfl (Or.inl ⟨rfl, rfl⟩) (zi1 152 rfl rfl) (by omega) (by omega) (by omega) (zwl_q (by exact (⟨trivial, trivial, trivial, trivial, zwR (show (zn σ + 1) < zn σ58 by omega), zwR (show (zn σ) < zn σ58 by omega), trivial, trivial, zwR L58.1.bl, trivial⟩ : _ ∧ _ ∧ _ ∧ _ ∧ _ ∧ _ ∧ _ ∧ _ ∧ _ ∧ True))) (zwl_m (by exact trivial)) ?_
          show zF G mL_isClosed (d + 11) 153 [(9, zI (((nH N) : Nat) : Int)), (8, zI (zsum (fun s => mS N s 3) (nS N))), (7, zI (zsum (fun h => cShN N h (nF N)) (nH N))), (6, zI (cAllN N (nS N))), (5, zR (zn σ + 1)), (4, zR (zn σ)), (3, zI (N 1)), (1, zL (aV N)), (0, zR (B0 0))] [zR (zn σ58)] (znw σ58 1 4 4) _
          show zF G mL_isClosed (d + 11) 153 [(9, zI (((nH N) : Nat) : Int)), (8, zI (zsum (fun s => mS N s 3) (nS N))), (7, zI (zsum (fun h => cShN N h (nF N)) (nH N))), (6, zI (cAllN N (nS N))), (5, zR (zn σ + 1)), (4, zR (zn σ)), (3, zI (N 1)), (1, zL (aV N)), (0, zR (B0 0))] [zR (zn σ58)] (znw σ58 1 4 4) _
          rw [n58]
          show zF G mL_isClosed (d + 11) 153 [(9, zI (((nH N) : Nat) : Int)), (8, zI (zsum (fun s => mS N s 3) (nS N))), (7, zI (zsum (fun h => cShN N h (nF N)) (nH N))), (6, zI (cAllN N (nS N))), (5, zR (zn σ + 1)), (4, zR (zn σ)), (3, zI (N 1)), (1, zL (aV N)), (0, zR (B0 0))] [zR (zn σ + 2)] (znw σ58 1 4 4) _
          refine zF_dup 154 dL_isClosed_153 rfl rfl ?_
          refine zF_iconst 155 dL_isClosed_154 rfl ?_
          refine zF_aload_n 156 dL_isClosed_155 rfl rfl ?_
          refine zF_iconst 157 dL_isClosed_156 rfl ?_
          refine zF_callVi 160 (d2 := (d + 10)) (as := [zI 0]) dL_isClosed_157 rfl kL_134 iX11_total (ci := 11) rfl eX11_total (Nat.le_refl _) (hL.gx (g58.nw (by omega) (by omega)) h228).1.bk (hL.gx (g58.nw (by omega) (by omega)) h228).1.bl rfl rfl (Nat.le_of_ble_eq_true rfl) ((show zP1 G mX11_total _ _ (znw σ58 1 4 4) (N (208 + 0)) from qL_total (d := d + 2) hGd (hL.gx (g58.nw (by omega) (by omega)) h228).K (by omega) (by omega))) ?_
          refine zF_iastore 161 dL_isClosed_160 rfl (by show zkd (znw σ58 1 4 4) (zn σ + 2) = (1, 4); rw [zkd_nw, if_pos (by first | omega | rw [zn_nw])]) (show (zn σ + 2) < zn (znw σ58 1 4 4) by rw [zn_nw]; omega) (by omega) (by omega) ?_
          refine zF_dup 162 dL_isClosed_161 rfl rfl ?_
          refine zF_iconst 163 dL_isClosed_162 rfl ?_
          refine zF_aload_n 164 dL_isClosed_163 rfl rfl ?_
          refine zF_iconst 165 dL_isClosed_164 rfl ?_
          refine zF_callVi 168 (d2 := (d + 10)) (as := [zI 1]) dL_isClosed_165 rfl kL_134 iX11_total (ci := 11) rfl eX11_total (Nat.le_refl _) (hL.gx ((g58.nw (by omega) (by omega)).si (by omega) (by omega)) h228).1.bk (hL.gx ((g58.nw (by omega) (by omega)).si (by omega) (by omega)) h228).1.bl rfl rfl (Nat.le_of_ble_eq_true rfl) ((show zP1 G mX11_total _ _ (zsi (znw σ58 1 4 4) (zn σ + 2) 0 (N (208 + 0))) (N (208 + 1)) from qL_total (d := d + 2) hGd (hL.gx ((g58.nw (by omega) (by omega)).si (by omega) (by omega)) h228).K (by omega) (by omega))) ?_
          refine zF_iastore 169 dL_isClosed_168 rfl (show zkd (zsi (znw σ58 1 4 4) (zn σ + 2) 0 (N (208 + 0))) (zn σ + 2) = (1, 4) from (by show zkd (znw σ58 1 4 4) (zn σ + 2) = (1, 4); rw [zkd_nw, if_pos (by first | omega | rw [zn_nw])])) (show (zn σ + 2) < zn (zsi (znw σ58 1 4 4) (zn σ + 2) 0 (N (208 + 0))) from (show (zn σ + 2) < zn (znw σ58 1 4 4) by rw [zn_nw]; omega)) (by omega) (by omega) ?_
          refine zF_dup 170 dL_isClosed_169 rfl rfl ?_
          refine zF_iconst 171 dL_isClosed_170 rfl ?_
          refine zF_aload_n 172 dL_isClosed_171 rfl rfl ?_
          refine zF_iconst 173 dL_isClosed_172 rfl ?_
          refine zF_callVi 176 (d2 := (d + 10)) (as := [zI 2]) dL_isClosed_173 rfl kL_134 iX11_total (ci := 11) rfl eX11_total (Nat.le_refl _) (hL.gx (((g58.nw (by omega) (by omega)).si (by omega) (by omega)).si (by omega) (by omega)) h228).1.bk (hL.gx (((g58.nw (by omega) (by omega)).si (by omega) (by omega)).si (by omega) (by omega)) h228).1.bl rfl rfl (Nat.le_of_ble_eq_true rfl) ((show zP1 G mX11_total _ _ (zsi (zsi (znw σ58 1 4 4) (zn σ + 2) 0 (N (208 + 0))) (zn σ + 2) 1 (N (208 + 1))) (N (208 + 2)) from qL_total (d := d + 2) hGd (hL.gx (((g58.nw (by omega) (by omega)).si (by omega) (by omega)).si (by omega) (by omega)) h228).K (by omega) (by omega))) ?_
          refine zF_iastore 177 dL_isClosed_176 rfl (show zkd (zsi (zsi (znw σ58 1 4 4) (zn σ + 2) 0 (N (208 + 0))) (zn σ + 2) 1 (N (208 + 1))) (zn σ + 2) = (1, 4) from (by show zkd (znw σ58 1 4 4) (zn σ + 2) = (1, 4); rw [zkd_nw, if_pos (by first | omega | rw [zn_nw])])) (show (zn σ + 2) < zn (zsi (zsi (znw σ58 1 4 4) (zn σ + 2) 0 (N (208 + 0))) (zn σ + 2) 1 (N (208 + 1))) from (show (zn σ + 2) < zn (znw σ58 1 4 4) by rw [zn_nw]; omega)) (by omega) (by omega) ?_
          refine zF_dup 178 dL_isClosed_177 rfl rfl ?_
          refine zF_iconst 179 dL_isClosed_178 rfl ?_
          refine zF_aload_n 180 dL_isClosed_179 rfl rfl ?_
          refine zF_iconst 181 dL_isClosed_180 rfl ?_
          refine zF_callVi 184 (d2 := (d + 10)) (as := [zI 3]) dL_isClosed_181 rfl kL_134 iX11_total (ci := 11) rfl eX11_total (Nat.le_refl _) (hL.gx ((((g58.nw (by omega) (by omega)).si (by omega) (by omega)).si (by omega) (by omega)).si (by omega) (by omega)) h228).1.bk (hL.gx ((((g58.nw (by omega) (by omega)).si (by omega) (by omega)).si (by omega) (by omega)).si (by omega) (by omega)) h228).1.bl rfl rfl (Nat.le_of_ble_eq_true rfl) ((show zP1 G mX11_total _ _ (zsi (zsi (zsi (znw σ58 1 4 4) (zn σ + 2) 0 (N (208 + 0))) (zn σ + 2) 1 (N (208 + 1))) (zn σ + 2) 2 (N (208 + 2))) (N (208 + 3)) from qL_total (d := d + 2) hGd (hL.gx ((((g58.nw (by omega) (by omega)).si (by omega) (by omega)).si (by omega) (by omega)).si (by omega) (by omega)) h228).K (by omega) (by omega))) ?_
          refine zF_iastore 185 dL_isClosed_184 rfl (show zkd (zsi (zsi (zsi (znw σ58 1 4 4) (zn σ + 2) 0 (N (208 + 0))) (zn σ + 2) 1 (N (208 + 1))) (zn σ + 2) 2 (N (208 + 2))) (zn σ + 2) = (1, 4) from (by show zkd (znw σ58 1 4 4) (zn σ + 2) = (1, 4); rw [zkd_nw, if_pos (by first | omega | rw [zn_nw])])) (show (zn σ + 2) < zn (zsi (zsi (zsi (znw σ58 1 4 4) (zn σ + 2) 0 (N (208 + 0))) (zn σ + 2) 1 (N (208 + 1))) (zn σ + 2) 2 (N (208 + 2))) from (show (zn σ + 2) < zn (znw σ58 1 4 4) by rw [zn_nw]; omega)) (by omega) (by omega) ?_
          refine zF_astore 187 (ls' := [(9, zR (zn σ + 2)), (8, zI (zsum (fun s => mS N s 3) (nS N))), (7, zI (zsum (fun h => cShN N h (nF N)) (nH N))), (6, zI (cAllN N (nS N))), (5, zR (zn σ + 1)), (4, zR (zn σ)), (3, zI (N 1)), (1, zL (aV N)), (0, zR (B0 0))]) dL_isClosed_185 rfl (by decide) rfl ?_
          refine zF_aload_n 188 dL_isClosed_187 rfl rfl ?_
          refine zF_iconst 189 dL_isClosed_188 rfl ?_
          refine zF_callVi 192 (d2 := (d + 10)) (as := [zI 4]) dL_isClosed_189 rfl kL_110 iX11_size (ci := 11) rfl eX11_size (Nat.le_refl _) (hL.gx (((((g58.nw (by omega) (by omega)).si (by omega) (by omega)).si (by omega) (by omega)).si (by omega) (by omega)).si (by omega) (by omega)) h228).1.bk (hL.gx (((((g58.nw (by omega) (by omega)).si (by omega) (by omega)).si (by omega) (by omega)).si (by omega) (by omega)).si (by omega) (by omega)) h228).1.bl rfl rfl (Nat.le_of_ble_eq_true rfl) ((show zP1 G mX11_size _ _ (zsi (zsi (zsi (zsi (znw σ58 1 4 4) (zn σ + 2) 0 (N (208 + 0))) (zn σ + 2) 1 (N (208 + 1))) (zn σ + 2) 2 (N (208 + 2))) (zn σ + 2) 3 (N (208 + 3))) (N 4) from qL_size (d := d + 2) hGd (hL.gx (((((g58.nw (by omega) (by omega)).si (by omega) (by omega)).si (by omega) (by omega)).si (by omega) (by omega)).si (by omega) (by omega)) h228).K (by omega) (by omega))) ?_
          refine zF_aload_n 193 dL_isClosed_192 rfl rfl ?_
          refine zF_iconst 194 dL_isClosed_193 rfl ?_
          refine zF_callVi 197 (d2 := (d + 10)) (as := [zI 5]) dL_isClosed_194 rfl kL_110 iX11_size (ci := 11) rfl eX11_size (Nat.le_refl _) (hL.gx (((((g58.nw (by omega) (by omega)).si (by omega) (by omega)).si (by omega) (by omega)).si (by omega) (by omega)).si (by omega) (by omega)) h228).1.bk (hL.gx (((((g58.nw (by omega) (by omega)).si (by omega) (by omega)).si (by omega) (by omega)).si (by omega) (by omega)).si (by omega) (by omega)) h228).1.bl rfl rfl (Nat.le_of_ble_eq_true rfl) ((show zP1 G mX11_size _ _ (zsi (zsi (zsi (zsi (znw σ58 1 4 4) (zn σ + 2) 0 (N (208 + 0))) (zn σ + 2) 1 (N (208 + 1))) (zn σ + 2) 2 (N (208 + 2))) (zn σ + 2) 3 (N (208 + 3))) (N 5) from qL_size (d := d + 2) hGd (hL.gx (((((g58.nw (by omega) (by omega)).si (by omega) (by omega)).si (by omega) (by omega)).si (by omega) (by omega)).si (by omega) (by omega)) h228).K (by omega) (by omega))) ?_
          refine zF_imul 198 dL_isClosed_197 rfl ?_
          refine zF_istore 200 (ls' := [(10, zI ((N 4) * (N 5))), (9, zR (zn σ + 2)), (8, zI (zsum (fun s => mS N s 3) (nS N))), (7, zI (zsum (fun h => cShN N h (nF N)) (nH N))), (6, zI (cAllN N (nS N))), (5, zR (zn σ + 1)), (4, zR (zn σ)), (3, zI (N 1)), (1, zL (aV N)), (0, zR (B0 0))]) dL_isClosed_198 rfl (by decide) rfl ?_
          refine zF_aload_n 201 dL_isClosed_200 rfl rfl ?_
          refine zF_callV 204 (d2 := (d + 10)) (as := []) dL_isClosed_201 rfl kL_140 iX11_close (ci := 11) rfl eX11_close (Nat.le_refl _) (hL.gx (((((g58.nw (by omega) (by omega)).si (by omega) (by omega)).si (by omega) (by omega)).si (by omega) (by omega)).si (by omega) (by omega)) h228).1.bk (hL.gx (((((g58.nw (by omega) (by omega)).si (by omega) (by omega)).si (by omega) (by omega)).si (by omega) (by omega)).si (by omega) (by omega)) h228).1.bl rfl rfl (Nat.le_of_ble_eq_true rfl) (zE.mono (pL_close (d := d + 1) hGd (hL.gx (((((g58.nw (by omega) (by omega)).si (by omega) (by omega)).si (by omega) (by omega)).si (by omega) (by omega)).si (by omega) (by omega)) h228) hT (by omega)) fun ro σs201 hh201 => ?_)
          obtain ⟨er201, fr201, L201⟩ := hh201
          subst er201
          refine ⟨fr201.1, ?_⟩
          have gA : zGx (zn σ) σ (zsi (zsi (zsi (zsi (znw σ58 1 4 4) (zn σ + 2) 0 (N (208 + 0))) (zn σ + 2) 1 (N (208 + 1))) (zn σ + 2) 2 (N (208 + 2))) (zn σ + 2) 3 (N (208 + 3))) := (((((g58.nw (by omega) (by omega)).si (by omega) (by omega)).si (by omega) (by omega)).si (by omega) (by omega)).si (by omega) (by omega))
          have K2 : cK T (clN N) σs201 := L201.K
          have nA : zn (zsi (zsi (zsi (zsi (znw σ58 1 4 4) (zn σ + 2) 0 (N (208 + 0))) (zn σ + 2) 1 (N (208 + 1))) (zn σ + 2) 2 (N (208 + 2))) (zn σ + 2) 3 (N (208 + 3))) = zn σ + 3 := by show zn σ58 + 1 = _; omega
          have cA : zcs (zsi (zsi (zsi (zsi (znw σ58 1 4 4) (zn σ + 2) 0 (N (208 + 0))) (zn σ + 2) 1 (N (208 + 1))) (zn σ + 2) 2 (N (208 + 2))) (zn σ + 2) 3 (N (208 + 3))) ≤ zcs σ + 3 := by show zcs σ58 + 1 ≤ _; omega
          have sA : zss (zsi (zsi (zsi (zsi (znw σ58 1 4 4) (zn σ + 2) 0 (N (208 + 0))) (zn σ + 2) 1 (N (208 + 1))) (zn σ + 2) 2 (N (208 + 2))) (zn σ + 2) 3 (N (208 + 3))) ≤ zss σ + 300 := by show zss σ58 + 4 ≤ _; omega
          have mA : zMu (zn σ) σ σs201 := gA.mu.tr (zMu_fr fr201)
          have iA : ∀ x j, 228 ≤ x → x < zbg → zia σs201 x j = zia (zsi (zsi (zsi (zsi (znw σ58 1 4 4) (zn σ + 2) 0 (N (208 + 0))) (zn σ + 2) 1 (N (208 + 1))) (zn σ + 2) 2 (N (208 + 2))) (zn σ + 2) 3 (N (208 + 3))) x j := fun x j h0 h1 => fr201.2.2.2.2.2 x j (cMu_no h0 h1)
          have rA1 : ∀ i : Nat, i < nS N → zia σs201 (zn σ) (i : Int) = zb (mHold N i) := fun i hi => by
            rw [iA _ _ (by omega) (by omega)]
            repeat rw [zia_si, if_neg (by omega)]
            rw [zia_nw, if_neg (by omega)]
            exact q1 i (by omega)
          have rA2 : ∀ i : Nat, i < nS N → zia σs201 (zn σ + 1) (i : Int) = mSh N i 6 := fun i hi => by
            rw [iA _ _ (by omega) (by omega)]
            repeat rw [zia_si, if_neg (by omega)]
            rw [zia_nw, if_neg (by omega)]
            exact q2 i (by omega)
          have rA3_0 : zia σs201 (zn σ + 2) 0 = N (208 + 0) := by
            rw [iA _ _ (by omega) (by omega)]
            repeat rw [zia_si, if_neg (by omega)]
            rw [zia_si, if_pos ⟨rfl, rfl⟩]
          have rA3_1 : zia σs201 (zn σ + 2) 1 = N (208 + 1) := by
            rw [iA _ _ (by omega) (by omega)]
            repeat rw [zia_si, if_neg (by omega)]
            rw [zia_si, if_pos ⟨rfl, rfl⟩]
          have rA3_2 : zia σs201 (zn σ + 2) 2 = N (208 + 2) := by
            rw [iA _ _ (by omega) (by omega)]
            repeat rw [zia_si, if_neg (by omega)]
            rw [zia_si, if_pos ⟨rfl, rfl⟩]
          have rA3_3 : zia σs201 (zn σ + 2) 3 = N (208 + 3) := by
            rw [iA _ _ (by omega) (by omega)]
            repeat rw [zia_si, if_neg (by omega)]
            rw [zia_si, if_pos ⟨rfl, rfl⟩]
          have kA1 : zkd σs201 (zn σ) = (3, nS N) := by rw [fr201.2.1]; exact (show zkd (zsi (zsi (zsi (zsi (znw σ58 1 4 4) (zn σ + 2) 0 (N (208 + 0))) (zn σ + 2) 1 (N (208 + 1))) (zn σ + 2) 2 (N (208 + 2))) (zn σ + 2) 3 (N (208 + 3))) (zn σ) = (3, (nS N)) from (by show zkd (znw σ58 1 4 4) (zn σ) = (3, (nS N)); rw [zkd_nw, if_neg (by first | omega | (rw [zn_nw]; omega))]; exact k1))
          have kA2 : zkd σs201 (zn σ + 1) = (1, nS N) := by rw [fr201.2.1]; exact (show zkd (zsi (zsi (zsi (zsi (znw σ58 1 4 4) (zn σ + 2) 0 (N (208 + 0))) (zn σ + 2) 1 (N (208 + 1))) (zn σ + 2) 2 (N (208 + 2))) (zn σ + 2) 3 (N (208 + 3))) (zn σ + 1) = (1, (nS N)) from (by show zkd (znw σ58 1 4 4) (zn σ + 1) = (1, (nS N)); rw [zkd_nw, if_neg (by first | omega | (rw [zn_nw]; omega))]; exact k2))
          have kA3 : zkd σs201 (zn σ + 2) = (1, 4) := by rw [fr201.2.1]; exact (show zkd (zsi (zsi (zsi (zsi (znw σ58 1 4 4) (zn σ + 2) 0 (N (208 + 0))) (zn σ + 2) 1 (N (208 + 1))) (zn σ + 2) 2 (N (208 + 2))) (zn σ + 2) 3 (N (208 + 3))) (zn σ + 2) = (1, 4) from (by show zkd (znw σ58 1 4 4) (zn σ + 2) = (1, 4); rw [zkd_nw, if_pos (by first | omega | rw [zn_nw])]))
          have nS1 : zn σs201 = zn σ + 3 := fr201.1.trans nA
          have c0 : clN N 0 = N 0 := clN_lo (by omega) (by omega) (by omega)
          have c1 : clN N 1 = N 1 := clN_lo (by omega) (by omega) (by omega)
          have c2 : clN N 2 = N 2 := clN_lo (by omega) (by omega) (by omega)
          have c3 : clN N 3 = N 3 + 1 := clN_3
          have c5 : clN N 5 = 0 := clN_5
          have t0 := clN_tot (N := N) (k := 0) (by omega) (by omega)
          have t1 := clN_tot (N := N) (k := 1) (by omega) (by omega)
          have t2 := clN_tot (N := N) (k := 2) (by omega) (by omega)
          have t3 := clN_tot (N := N) (k := 3) (by omega) (by omega)
          have v0 : clA N 0 = cAllN N (nS N) := rfl
          have v1 : clA N 1 = zsum (fun h => cShN N h (nF N)) (nH N) := rfl
          have v2 : zsum (fun s => mS N s 3) (nS N) = clA N 2 := mRent_sum
          have v3 : clA N 3 = N 4 * N 5 := rfl
          have b0 : zrg (clN N (208 + 0)) := K2.V.b _
          have b1 : zrg (clN N (208 + 1)) := K2.V.b _
          have b2 : zrg (clN N (208 + 2)) := K2.V.b _
          have b3 : zrg (clN N (208 + 3)) := K2.V.b _
          unfold zrg at b0 b1 b2 b3
          have ab := cAll_b hK.V (nS N) (Nat.le_refl _)
          have hdb := hdN_b N (nS N)
          have x0 := (clN_wk (N := N)).1
          have x4 := (clN_wk (N := N)).2
          have x7 : sSize (clN N) 7 = zsum (fun s => zb (mHold N s)) (nS N) := clN_hd hK.V
          show zF G mL_isClosed (d + 11) 204 [(10, zI ((N 4) * (N 5))), (9, zR (zn σ + 2)), (8, zI (zsum (fun s => mS N s 3) (nS N))), (7, zI (zsum (fun h => cShN N h (nF N)) (nH N))), (6, zI (cAllN N (nS N))), (5, zR (zn σ + 1)), (4, zR (zn σ)), (3, zI (N 1)), (1, zL (aV N)), (0, zR (B0 0))] [zI (cAllN N (nS N))] σs201 _
          refine zF_iload 206 dL_isClosed_204 rfl rfl ?_
          refine zF_icmp_ne 269 209 dL_isClosed_206 rfl rfl (by first | decide | assumption | exact hK.V.b _ | exact w32_rg _ | (constructor <;> omega)) (by first | decide | assumption | exact hK.V.b _ | exact w32_rg _ | (constructor <;> omega)) (fun c5 => ?_) (fun c5 => ?_)
          · refine zF_iconst 270 dL_isClosed_269 rfl ?_
            exact zF_zreturn dL_isClosed_270 rfl (by decide) (by exfalso; omega)
          · refine zF_aload_n 210 dL_isClosed_209 rfl rfl ?_
            refine zF_iconst 211 dL_isClosed_210 rfl ?_
            refine zF_callVi 214 (d2 := (d + 10)) (as := [zI 0]) dL_isClosed_211 rfl kL_134 iX11_total (ci := 11) rfl eX11_total (Nat.le_refl _) L201.1.bk L201.1.bl rfl rfl (Nat.le_of_ble_eq_true rfl) ((show zP1 G mX11_total _ _ σs201 ((clN N) (208 + 0)) from qL_total (d := d + 2) hGd K2 (by omega) (by omega))) ?_
            refine zF_aload 216 dL_isClosed_214 rfl rfl ?_
            refine zF_iconst 217 dL_isClosed_216 rfl ?_
            refine zF_iaload 218 dL_isClosed_217 rfl kA3 (show (zn σ + 2) < zn σs201 by omega) (by omega) (by omega) rA3_0 ?_
            refine zF_iload 220 dL_isClosed_218 rfl rfl ?_
            refine zF_iadd 221 dL_isClosed_220 rfl ?_
            refine zF_icmp_ne 269 224 dL_isClosed_221 rfl rfl (by first | decide | assumption | exact hK.V.b _ | exact w32_rg _ | (constructor <;> omega)) (by first | decide | assumption | exact hK.V.b _ | exact w32_rg _ | (constructor <;> omega)) (fun c6 => ?_) (fun c6 => ?_)
            · refine zF_iconst 270 dL_isClosed_269 rfl ?_
              exact zF_zreturn dL_isClosed_270 rfl (by decide) (by exfalso; omega)
            · refine zF_aload_n 225 dL_isClosed_224 rfl rfl ?_
              refine zF_iconst 226 dL_isClosed_225 rfl ?_
              refine zF_callVi 229 (d2 := (d + 10)) (as := [zI 1]) dL_isClosed_226 rfl kL_134 iX11_total (ci := 11) rfl eX11_total (Nat.le_refl _) L201.1.bk L201.1.bl rfl rfl (Nat.le_of_ble_eq_true rfl) ((show zP1 G mX11_total _ _ σs201 ((clN N) (208 + 1)) from qL_total (d := d + 2) hGd K2 (by omega) (by omega))) ?_
              refine zF_aload 231 dL_isClosed_229 rfl rfl ?_
              refine zF_iconst 232 dL_isClosed_231 rfl ?_
              refine zF_iaload 233 dL_isClosed_232 rfl kA3 (show (zn σ + 2) < zn σs201 by omega) (by omega) (by omega) rA3_1 ?_
              refine zF_iload 235 dL_isClosed_233 rfl rfl ?_
              refine zF_iadd 236 dL_isClosed_235 rfl ?_
              refine zF_icmp_ne 269 239 dL_isClosed_236 rfl rfl (by first | decide | assumption | exact hK.V.b _ | exact w32_rg _ | (constructor <;> omega)) (by first | decide | assumption | exact hK.V.b _ | exact w32_rg _ | (constructor <;> omega)) (fun c7 => ?_) (fun c7 => ?_)
              · refine zF_iconst 270 dL_isClosed_269 rfl ?_
                exact zF_zreturn dL_isClosed_270 rfl (by decide) (by exfalso; omega)
              · refine zF_aload_n 240 dL_isClosed_239 rfl rfl ?_
                refine zF_iconst 241 dL_isClosed_240 rfl ?_
                refine zF_callVi 244 (d2 := (d + 10)) (as := [zI 2]) dL_isClosed_241 rfl kL_134 iX11_total (ci := 11) rfl eX11_total (Nat.le_refl _) L201.1.bk L201.1.bl rfl rfl (Nat.le_of_ble_eq_true rfl) ((show zP1 G mX11_total _ _ σs201 ((clN N) (208 + 2)) from qL_total (d := d + 2) hGd K2 (by omega) (by omega))) ?_
                refine zF_aload 246 dL_isClosed_244 rfl rfl ?_
                refine zF_iconst 247 dL_isClosed_246 rfl ?_
                refine zF_iaload 248 dL_isClosed_247 rfl kA3 (show (zn σ + 2) < zn σs201 by omega) (by omega) (by omega) rA3_2 ?_
                refine zF_iload 250 dL_isClosed_248 rfl rfl ?_
                refine zF_iadd 251 dL_isClosed_250 rfl ?_
                refine zF_icmp_ne 269 254 dL_isClosed_251 rfl rfl (by first | decide | assumption | exact hK.V.b _ | exact w32_rg _ | (constructor <;> omega)) (by first | decide | assumption | exact hK.V.b _ | exact w32_rg _ | (constructor <;> omega)) (fun c8 => ?_) (fun c8 => ?_)
                · refine zF_iconst 270 dL_isClosed_269 rfl ?_
                  exact zF_zreturn dL_isClosed_270 rfl (by decide) (by exfalso; omega)
                · refine zF_aload_n 255 dL_isClosed_254 rfl rfl ?_
                  refine zF_iconst 256 dL_isClosed_255 rfl ?_
                  refine zF_callVi 259 (d2 := (d + 10)) (as := [zI 3]) dL_isClosed_256 rfl kL_134 iX11_total (ci := 11) rfl eX11_total (Nat.le_refl _) L201.1.bk L201.1.bl rfl rfl (Nat.le_of_ble_eq_true rfl) ((show zP1 G mX11_total _ _ σs201 ((clN N) (208 + 3)) from qL_total (d := d + 2) hGd K2 (by omega) (by omega))) ?_
                  refine zF_aload 261 dL_isClosed_259 rfl rfl ?_
                  refine zF_iconst 262 dL_isClosed_261 rfl ?_
                  refine zF_iaload 263 dL_isClosed_262 rfl kA3 (show (zn σ + 2) < zn σs201 by omega) (by omega) (by omega) rA3_3 ?_
                  refine zF_iload 265 dL_isClosed_263 rfl rfl ?_
                  refine zF_iadd 266 dL_isClosed_265 rfl ?_
                  refine zF_icmp_eq 271 269 dL_isClosed_266 rfl rfl (by first | decide | assumption | exact hK.V.b _ | exact w32_rg _ | (constructor <;> omega)) (by first | decide | assumption | exact hK.V.b _ | exact w32_rg _ | (constructor <;> omega)) (fun c9 => ?_) (fun c9 => ?_)
                  · refine zF_iconst 272 dL_isClosed_271 rfl ?_
                    refine zF_istore 274 (ls' := [(11, zI 0), (10, zI ((N 4) * (N 5))), (9, zR (zn σ + 2)), (8, zI (zsum (fun s => mS N s 3) (nS N))), (7, zI (zsum (fun h => cShN N h (nF N)) (nH N))), (6, zI (cAllN N (nS N))), (5, zR (zn σ + 1)), (4, zR (zn σ)), (3, zI (N 1)), (1, zL (aV N)), (0, zR (B0 0))]) dL_isClosed_272 rfl (by decide) rfl ?_
                    refine zF_iconst 275 dL_isClosed_274 rfl ?_
                    refine zF_istore 277 (ls' := [(12, zI 0), (11, zI 0), (10, zI ((N 4) * (N 5))), (9, zR (zn σ + 2)), (8, zI (zsum (fun s => mS N s 3) (nS N))), (7, zI (zsum (fun h => cShN N h (nF N)) (nH N))), (6, zI (cAllN N (nS N))), (5, zR (zn σ + 1)), (4, zR (zn σ)), (3, zI (N 1)), (1, zL (aV N)), (0, zR (B0 0))]) dL_isClosed_275 rfl (by decide) rfl ?_
                    refine zF_locs (ls' := (fun (i3 : Nat) => [(12, zI (i3 : Int)), (11, zI (zsum (fun s => zb (mHold N s)) i3)), (10, zI (N 4 * N 5)), (9, zR (zn σ + 2)), (8, zI (zsum (fun s => mS N s 3) (nS N))), (7, zI (zsum (fun h => cShN N h (nF N)) (nH N))), (6, zI (cAllN N (nS N))), (5, zR (zn σ + 1)), (4, zR (zn σ)), (3, zI (N 1)), (1, zL (aV N)), (0, zR (B0 0))]) 0) ⟨zlI rfl (by first | rfl | omega | (push_cast; omega) | exact congrArg (_ + ·) (zbT (by assumption)) | exact congrArg (_ + ·) (zbF (by assumption)) | exact congrArg (_ + ·) (zbT (by omega)) | exact congrArg (_ + ·) (zbF (by omega)) | exact congrArg (_ + ·) (if_pos (by omega)).symm | exact congrArg (_ + ·) (if_neg (by omega)).symm | exact (if_pos (by omega)).symm | exact (if_neg (by omega)).symm | exact zsub_s (if_pos (by omega)).symm | exact zsub_s0 (if_neg (by omega)).symm | exact zadd0 (if_neg (by omega)).symm | exact zadd0 (zbF (by omega)) | exact (Int.sub_zero _).symm), zlI rfl (by first | rfl | omega | (push_cast; omega) | exact congrArg (_ + ·) (zbT (by assumption)) | exact congrArg (_ + ·) (zbF (by assumption)) | exact congrArg (_ + ·) (zbT (by omega)) | exact congrArg (_ + ·) (zbF (by omega)) | exact congrArg (_ + ·) (if_pos (by omega)).symm | exact congrArg (_ + ·) (if_neg (by omega)).symm | exact (if_pos (by omega)).symm | exact (if_neg (by omega)).symm | exact zsub_s (if_pos (by omega)).symm | exact zsub_s0 (if_neg (by omega)).symm | exact zadd0 (if_neg (by omega)).symm | exact zadd0 (zbF (by omega)) | exact (Int.sub_zero _).symm), zlI rfl (by first | rfl | omega | (push_cast; omega) | exact congrArg (_ + ·) (zbT (by assumption)) | exact congrArg (_ + ·) (zbF (by assumption)) | exact congrArg (_ + ·) (zbT (by omega)) | exact congrArg (_ + ·) (zbF (by omega)) | exact congrArg (_ + ·) (if_pos (by omega)).symm | exact congrArg (_ + ·) (if_neg (by omega)).symm | exact (if_pos (by omega)).symm | exact (if_neg (by omega)).symm | exact zsub_s (if_pos (by omega)).symm | exact zsub_s0 (if_neg (by omega)).symm | exact zadd0 (if_neg (by omega)).symm | exact zadd0 (zbF (by omega)) | exact (Int.sub_zero _).symm), rfl, rfl, rfl, rfl, rfl, rfl, rfl, rfl, rfl, trivial⟩ ?_
                    refine zF_loop (n := (nS N)) (fun (i3 : Nat) => [(12, zI (i3 : Int)), (11, zI (zsum (fun s => zb (mHold N s)) i3)), (10, zI (N 4 * N 5)), (9, zR (zn σ + 2)), (8, zI (zsum (fun s => mS N s 3) (nS N))), (7, zI (zsum (fun h => cShN N h (nF N)) (nH N))), (6, zI (cAllN N (nS N))), (5, zR (zn σ + 1)), (4, zR (zn σ)), (3, zI (N 1)), (1, zL (aV N)), (0, zR (B0 0))]) (fun _ => σs201) (fun i3 hi3 ih277 => ?_) ?_
                    · show zF G mL_isClosed (d + 11) 277 [(12, zI (i3 : Int)), (11, zI (zsum (fun s => zb (mHold N s)) i3)), (10, zI (N 4 * N 5)), (9, zR (zn σ + 2)), (8, zI (zsum (fun s => mS N s 3) (nS N))), (7, zI (zsum (fun h => cShN N h (nF N)) (nH N))), (6, zI (cAllN N (nS N))), (5, zR (zn σ + 1)), (4, zR (zn σ)), (3, zI (N 1)), (1, zL (aV N)), (0, zR (B0 0))] [] σs201 _
                      refine zF_iload 279 dL_isClosed_277 rfl rfl ?_
                      refine zF_iload_n 280 dL_isClosed_279 rfl rfl ?_
                      refine zF_icmp_ge 371 283 dL_isClosed_280 rfl rfl (by first | decide | assumption | exact hK.V.b _ | exact w32_rg _ | (constructor <;> omega)) (by first | decide | assumption | exact hK.V.b _ | exact w32_rg _ | (constructor <;> omega)) (fun c10 => ?_) (fun c10 => ?_)
                      · exact absurd c10 (by omega)
                      · obtain ⟨p4, p5, p7⟩ := clN_st (N := N) (s := i3) (by omega) (by omega)
                        have pz := hFl_or (N := N) (i3 : Int)
                        have es3 : zsum (fun s => zb (mHold N s)) (i3 + 1) = zsum (fun s => zb (mHold N s)) i3 + zb (mHold N i3) := rfl
                        have shb := mSh_b hK.V (s := (i3 : Int)) (by omega) (by omega) 6
                        refine zF_aload_n 284 dL_isClosed_283 rfl rfl ?_
                        refine zF_iload 286 dL_isClosed_284 rfl rfl ?_
                        refine zF_iconst 287 dL_isClosed_286 rfl ?_
                        refine zF_callVi 290 (d2 := (d + 10)) (as := [zI (i3 : Int), zI 4]) dL_isClosed_287 rfl kL_108 iX11_screen (ci := 11) rfl eX11_screen (Nat.le_refl _) L201.1.bk L201.1.bl rfl rfl (Nat.le_of_ble_eq_true rfl) ((show zP1 G mX11_screen _ _ σs201 (mS (clN N) (i3 : Int) 4) from qL_screen (d := d + 2) hGd K2 (by omega) (by omega) (by omega) (by omega))) ?_
                        refine zF_aload 292 dL_isClosed_290 rfl rfl ?_
                        refine zF_iload 294 dL_isClosed_292 rfl rfl ?_
                        refine zF_zaload 295 dL_isClosed_294 rfl kA1 (show (zn σ) < zn σs201 by omega) (by omega) (by omega) (rA1 _ (by omega)) ?_
                        refine zF_if_eq 306 298 dL_isClosed_295 rfl rfl (by first | decide | assumption | exact hK.V.b _ | exact w32_rg _ | (constructor <;> omega)) (fun c11 => ?_) (fun c11 => ?_)
                        · refine zF_iconst 307 dL_isClosed_306 rfl ?_
                          refine zF_icmp_ne 345 310 dL_isClosed_307 rfl rfl (by first | decide | assumption | exact hK.V.b _ | exact w32_rg _ | (constructor <;> omega)) (by first | decide | assumption | exact hK.V.b _ | exact w32_rg _ | (constructor <;> omega)) (fun c12 => ?_) (fun c12 => ?_)
                          · refine zF_iconst 346 dL_isClosed_345 rfl ?_
                            exact zF_zreturn dL_isClosed_346 rfl (by decide) (by exfalso; omega)
                          · refine zF_aload_n 311 dL_isClosed_310 rfl rfl ?_
                            refine zF_iload 313 dL_isClosed_311 rfl rfl ?_
                            refine zF_iconst 314 dL_isClosed_313 rfl ?_
                            refine zF_callVi 317 (d2 := (d + 10)) (as := [zI (i3 : Int), zI 5]) dL_isClosed_314 rfl kL_108 iX11_screen (ci := 11) rfl eX11_screen (Nat.le_refl _) L201.1.bk L201.1.bl rfl rfl (Nat.le_of_ble_eq_true rfl) ((show zP1 G mX11_screen _ _ σs201 (mS (clN N) (i3 : Int) 5) from qL_screen (d := d + 2) hGd K2 (by omega) (by omega) (by omega) (by omega))) ?_
                            refine zF_iconst 318 dL_isClosed_317 rfl ?_
                            refine zF_icmp_ne 345 321 dL_isClosed_318 rfl rfl (by first | decide | assumption | exact hK.V.b _ | exact w32_rg _ | (constructor <;> omega)) (by first | decide | assumption | exact hK.V.b _ | exact w32_rg _ | (constructor <;> omega)) (fun c13 => ?_) (fun c13 => ?_)
                            · refine zF_iconst 346 dL_isClosed_345 rfl ?_
                              exact zF_zreturn dL_isClosed_346 rfl (by decide) (by exfalso; omega)
                            · refine zF_aload_n 322 dL_isClosed_321 rfl rfl ?_
                              refine zF_iload 324 dL_isClosed_322 rfl rfl ?_
                              refine zF_bipush 326 dL_isClosed_324 rfl (by decide) ?_
                              refine zF_callVi 329 (d2 := (d + 10)) (as := [zI (i3 : Int), zI 7]) dL_isClosed_326 rfl kL_108 iX11_screen (ci := 11) rfl eX11_screen (Nat.le_refl _) L201.1.bk L201.1.bl rfl rfl (Nat.le_of_ble_eq_true rfl) ((show zP1 G mX11_screen _ _ σs201 (mS (clN N) (i3 : Int) 7) from qL_screen (d := d + 2) hGd K2 (by omega) (by omega) (by omega) (by omega))) ?_
                              refine zF_aload 331 dL_isClosed_329 rfl rfl ?_
                              refine zF_iload 333 dL_isClosed_331 rfl rfl ?_
                              refine zF_zaload 334 dL_isClosed_333 rfl kA1 (show (zn σ) < zn σs201 by omega) (by omega) (by omega) (rA1 _ (by omega)) ?_
                              refine zF_if_eq 341 337 dL_isClosed_334 rfl rfl (by first | decide | assumption | exact hK.V.b _ | exact w32_rg _ | (constructor <;> omega)) (fun c14 => ?_) (fun c14 => ?_)
                              · refine zF_iconst 342 dL_isClosed_341 rfl ?_
                                refine zF_icmp_eq 347 345 dL_isClosed_342 rfl rfl (by first | decide | assumption | exact hK.V.b _ | exact w32_rg _ | (constructor <;> omega)) (by first | decide | assumption | exact hK.V.b _ | exact w32_rg _ | (constructor <;> omega)) (fun c15 => ?_) (fun c15 => ?_)
                                · refine zF_iload 349 dL_isClosed_347 rfl rfl ?_
                                  refine zF_aload 351 dL_isClosed_349 rfl rfl ?_
                                  refine zF_iload 353 dL_isClosed_351 rfl rfl ?_
                                  refine zF_zaload 354 dL_isClosed_353 rfl kA1 (show (zn σ) < zn σs201 by omega) (by omega) (by omega) (rA1 _ (by omega)) ?_
                                  refine zF_if_eq 361 357 dL_isClosed_354 rfl rfl (by first | decide | assumption | exact hK.V.b _ | exact w32_rg _ | (constructor <;> omega)) (fun c16 => ?_) (fun c16 => ?_)
                                  · refine zF_iconst 362 dL_isClosed_361 rfl ?_
                                    refine zF_iadd 363 dL_isClosed_362 rfl ?_
                                    refine zF_istore 365 (ls' := [(11, zI ((zsum (fun s => zb (mHold N s)) i3) + 0)), (12, zI (i3 : Int)), (10, zI (N 4 * N 5)), (9, zR (zn σ + 2)), (8, zI (zsum (fun s => mS N s 3) (nS N))), (7, zI (zsum (fun h => cShN N h (nF N)) (nH N))), (6, zI (cAllN N (nS N))), (5, zR (zn σ + 1)), (4, zR (zn σ)), (3, zI (N 1)), (1, zL (aV N)), (0, zR (B0 0))]) dL_isClosed_363 rfl (by decide) rfl ?_
                                    refine zF_iinc 368 (ls' := [(12, zI ((i3 : Int) + 1)), (11, zI ((zsum (fun s => zb (mHold N s)) i3) + 0)), (10, zI (N 4 * N 5)), (9, zR (zn σ + 2)), (8, zI (zsum (fun s => mS N s 3) (nS N))), (7, zI (zsum (fun h => cShN N h (nF N)) (nH N))), (6, zI (cAllN N (nS N))), (5, zR (zn σ + 1)), (4, zR (zn σ)), (3, zI (N 1)), (1, zL (aV N)), (0, zR (B0 0))]) dL_isClosed_365 rfl rfl rfl (by decide) rfl ?_
                                    refine zF_goto 277 dL_isClosed_368 rfl ?_
                                    exact zF_locs (ls' := [(12, zI ((i3 + 1 : Nat) : Int)), (11, zI (zsum (fun s => zb (mHold N s)) (i3 + 1))), (10, zI (N 4 * N 5)), (9, zR (zn σ + 2)), (8, zI (zsum (fun s => mS N s 3) (nS N))), (7, zI (zsum (fun h => cShN N h (nF N)) (nH N))), (6, zI (cAllN N (nS N))), (5, zR (zn σ + 1)), (4, zR (zn σ)), (3, zI (N 1)), (1, zL (aV N)), (0, zR (B0 0))]) ⟨zlI rfl (by first | rfl | omega | (push_cast; omega) | exact congrArg (_ + ·) (zbT (by assumption)) | exact congrArg (_ + ·) (zbF (by assumption)) | exact congrArg (_ + ·) (zbT (by omega)) | exact congrArg (_ + ·) (zbF (by omega)) | exact congrArg (_ + ·) (if_pos (by omega)).symm | exact congrArg (_ + ·) (if_neg (by omega)).symm | exact (if_pos (by omega)).symm | exact (if_neg (by omega)).symm | exact zsub_s (if_pos (by omega)).symm | exact zsub_s0 (if_neg (by omega)).symm | exact zadd0 (if_neg (by omega)).symm | exact zadd0 (zbF (by omega)) | exact (Int.sub_zero _).symm), zlI rfl (by first | rfl | omega | (push_cast; omega) | exact congrArg (_ + ·) (zbT (by assumption)) | exact congrArg (_ + ·) (zbF (by assumption)) | exact congrArg (_ + ·) (zbT (by omega)) | exact congrArg (_ + ·) (zbF (by omega)) | exact congrArg (_ + ·) (if_pos (by omega)).symm | exact congrArg (_ + ·) (if_neg (by omega)).symm | exact (if_pos (by omega)).symm | exact (if_neg (by omega)).symm | exact zsub_s (if_pos (by omega)).symm | exact zsub_s0 (if_neg (by omega)).symm | exact zadd0 (if_neg (by omega)).symm | exact zadd0 (zbF (by omega)) | exact (Int.sub_zero _).symm), rfl, rfl, rfl, rfl, rfl, rfl, rfl, rfl, rfl, rfl, trivial⟩ ih277
                                  · exact absurd c16 (by first | assumption | omega)
                                · refine zF_iconst 346 dL_isClosed_345 rfl ?_
                                  exact zF_zreturn dL_isClosed_346 rfl (by decide) (by exfalso; omega)
                              · exact absurd c14 (by first | assumption | omega)
                        · refine zF_aload 300 dL_isClosed_298 rfl rfl ?_
                          refine zF_iload 302 dL_isClosed_300 rfl rfl ?_
                          refine zF_iaload 303 dL_isClosed_302 rfl kA2 (show (zn σ + 1) < zn σs201 by omega) (by omega) (by omega) (rA2 _ (by omega)) ?_
                          refine zF_goto 307 dL_isClosed_303 rfl ?_
                          refine zF_icmp_ne 345 310 dL_isClosed_307 rfl rfl (by first | decide | assumption | exact hK.V.b _ | exact w32_rg _ | (constructor <;> omega)) (by first | decide | assumption | exact hK.V.b _ | exact w32_rg _ | (constructor <;> omega)) (fun c17 => ?_) (fun c17 => ?_)
                          · refine zF_iconst 346 dL_isClosed_345 rfl ?_
                            exact zF_zreturn dL_isClosed_346 rfl (by decide) (by exfalso; omega)
                          · refine zF_aload_n 311 dL_isClosed_310 rfl rfl ?_
                            refine zF_iload 313 dL_isClosed_311 rfl rfl ?_
                            refine zF_iconst 314 dL_isClosed_313 rfl ?_
                            refine zF_callVi 317 (d2 := (d + 10)) (as := [zI (i3 : Int), zI 5]) dL_isClosed_314 rfl kL_108 iX11_screen (ci := 11) rfl eX11_screen (Nat.le_refl _) L201.1.bk L201.1.bl rfl rfl (Nat.le_of_ble_eq_true rfl) ((show zP1 G mX11_screen _ _ σs201 (mS (clN N) (i3 : Int) 5) from qL_screen (d := d + 2) hGd K2 (by omega) (by omega) (by omega) (by omega))) ?_
                            refine zF_iconst 318 dL_isClosed_317 rfl ?_
                            refine zF_icmp_ne 345 321 dL_isClosed_318 rfl rfl (by first | decide | assumption | exact hK.V.b _ | exact w32_rg _ | (constructor <;> omega)) (by first | decide | assumption | exact hK.V.b _ | exact w32_rg _ | (constructor <;> omega)) (fun c18 => ?_) (fun c18 => ?_)
                            · refine zF_iconst 346 dL_isClosed_345 rfl ?_
                              exact zF_zreturn dL_isClosed_346 rfl (by decide) (by exfalso; omega)
                            · refine zF_aload_n 322 dL_isClosed_321 rfl rfl ?_
                              refine zF_iload 324 dL_isClosed_322 rfl rfl ?_
                              refine zF_bipush 326 dL_isClosed_324 rfl (by decide) ?_
                              refine zF_callVi 329 (d2 := (d + 10)) (as := [zI (i3 : Int), zI 7]) dL_isClosed_326 rfl kL_108 iX11_screen (ci := 11) rfl eX11_screen (Nat.le_refl _) L201.1.bk L201.1.bl rfl rfl (Nat.le_of_ble_eq_true rfl) ((show zP1 G mX11_screen _ _ σs201 (mS (clN N) (i3 : Int) 7) from qL_screen (d := d + 2) hGd K2 (by omega) (by omega) (by omega) (by omega))) ?_
                              refine zF_aload 331 dL_isClosed_329 rfl rfl ?_
                              refine zF_iload 333 dL_isClosed_331 rfl rfl ?_
                              refine zF_zaload 334 dL_isClosed_333 rfl kA1 (show (zn σ) < zn σs201 by omega) (by omega) (by omega) (rA1 _ (by omega)) ?_
                              refine zF_if_eq 341 337 dL_isClosed_334 rfl rfl (by first | decide | assumption | exact hK.V.b _ | exact w32_rg _ | (constructor <;> omega)) (fun c19 => ?_) (fun c19 => ?_)
                              · exact absurd c19 (by first | assumption | omega)
                              · refine zF_iconst 338 dL_isClosed_337 rfl ?_
                                refine zF_goto 342 dL_isClosed_338 rfl ?_
                                refine zF_icmp_eq 347 345 dL_isClosed_342 rfl rfl (by first | decide | assumption | exact hK.V.b _ | exact w32_rg _ | (constructor <;> omega)) (by first | decide | assumption | exact hK.V.b _ | exact w32_rg _ | (constructor <;> omega)) (fun c20 => ?_) (fun c20 => ?_)
                                · refine zF_iload 349 dL_isClosed_347 rfl rfl ?_
                                  refine zF_aload 351 dL_isClosed_349 rfl rfl ?_
                                  refine zF_iload 353 dL_isClosed_351 rfl rfl ?_
                                  refine zF_zaload 354 dL_isClosed_353 rfl kA1 (show (zn σ) < zn σs201 by omega) (by omega) (by omega) (rA1 _ (by omega)) ?_
                                  refine zF_if_eq 361 357 dL_isClosed_354 rfl rfl (by first | decide | assumption | exact hK.V.b _ | exact w32_rg _ | (constructor <;> omega)) (fun c21 => ?_) (fun c21 => ?_)
                                  · exact absurd c21 (by first | assumption | omega)
                                  · refine zF_iconst 358 dL_isClosed_357 rfl ?_
                                    refine zF_goto 362 dL_isClosed_358 rfl ?_
                                    refine zF_iadd 363 dL_isClosed_362 rfl ?_
                                    refine zF_istore 365 (ls' := [(11, zI ((zsum (fun s => zb (mHold N s)) i3) + 1)), (12, zI (i3 : Int)), (10, zI (N 4 * N 5)), (9, zR (zn σ + 2)), (8, zI (zsum (fun s => mS N s 3) (nS N))), (7, zI (zsum (fun h => cShN N h (nF N)) (nH N))), (6, zI (cAllN N (nS N))), (5, zR (zn σ + 1)), (4, zR (zn σ)), (3, zI (N 1)), (1, zL (aV N)), (0, zR (B0 0))]) dL_isClosed_363 rfl (by decide) rfl ?_
                                    refine zF_iinc 368 (ls' := [(12, zI ((i3 : Int) + 1)), (11, zI ((zsum (fun s => zb (mHold N s)) i3) + 1)), (10, zI (N 4 * N 5)), (9, zR (zn σ + 2)), (8, zI (zsum (fun s => mS N s 3) (nS N))), (7, zI (zsum (fun h => cShN N h (nF N)) (nH N))), (6, zI (cAllN N (nS N))), (5, zR (zn σ + 1)), (4, zR (zn σ)), (3, zI (N 1)), (1, zL (aV N)), (0, zR (B0 0))]) dL_isClosed_365 rfl rfl rfl (by decide) rfl ?_
                                    refine zF_goto 277 dL_isClosed_368 rfl ?_
                                    exact zF_locs (ls' := [(12, zI ((i3 + 1 : Nat) : Int)), (11, zI (zsum (fun s => zb (mHold N s)) (i3 + 1))), (10, zI (N 4 * N 5)), (9, zR (zn σ + 2)), (8, zI (zsum (fun s => mS N s 3) (nS N))), (7, zI (zsum (fun h => cShN N h (nF N)) (nH N))), (6, zI (cAllN N (nS N))), (5, zR (zn σ + 1)), (4, zR (zn σ)), (3, zI (N 1)), (1, zL (aV N)), (0, zR (B0 0))]) ⟨zlI rfl (by first | rfl | omega | (push_cast; omega) | exact congrArg (_ + ·) (zbT (by assumption)) | exact congrArg (_ + ·) (zbF (by assumption)) | exact congrArg (_ + ·) (zbT (by omega)) | exact congrArg (_ + ·) (zbF (by omega)) | exact congrArg (_ + ·) (if_pos (by omega)).symm | exact congrArg (_ + ·) (if_neg (by omega)).symm | exact (if_pos (by omega)).symm | exact (if_neg (by omega)).symm | exact zsub_s (if_pos (by omega)).symm | exact zsub_s0 (if_neg (by omega)).symm | exact zadd0 (if_neg (by omega)).symm | exact zadd0 (zbF (by omega)) | exact (Int.sub_zero _).symm), zlI rfl (by first | rfl | omega | (push_cast; omega) | exact congrArg (_ + ·) (zbT (by assumption)) | exact congrArg (_ + ·) (zbF (by assumption)) | exact congrArg (_ + ·) (zbT (by omega)) | exact congrArg (_ + ·) (zbF (by omega)) | exact congrArg (_ + ·) (if_pos (by omega)).symm | exact congrArg (_ + ·) (if_neg (by omega)).symm | exact (if_pos (by omega)).symm | exact (if_neg (by omega)).symm | exact zsub_s (if_pos (by omega)).symm | exact zsub_s0 (if_neg (by omega)).symm | exact zadd0 (if_neg (by omega)).symm | exact zadd0 (zbF (by omega)) | exact (Int.sub_zero _).symm), rfl, rfl, rfl, rfl, rfl, rfl, rfl, rfl, rfl, rfl, trivial⟩ ih277
                                · refine zF_iconst 346 dL_isClosed_345 rfl ?_
                                  exact zF_zreturn dL_isClosed_346 rfl (by decide) (by exfalso; omega)
                    · show zF G mL_isClosed (d + 11) 277 [(12, zI (((nS N) : Nat) : Int)), (11, zI (zsum (fun s => zb (mHold N s)) (nS N))), (10, zI (N 4 * N 5)), (9, zR (zn σ + 2)), (8, zI (zsum (fun s => mS N s 3) (nS N))), (7, zI (zsum (fun h => cShN N h (nF N)) (nH N))), (6, zI (cAllN N (nS N))), (5, zR (zn σ + 1)), (4, zR (zn σ)), (3, zI (N 1)), (1, zL (aV N)), (0, zR (B0 0))] [] σs201 _
                      refine zF_iload 279 dL_isClosed_277 rfl rfl ?_
                      refine zF_iload_n 280 dL_isClosed_279 rfl rfl ?_
                      refine zF_icmp_ge 371 283 dL_isClosed_280 rfl rfl (by first | decide | assumption | exact hK.V.b _ | exact w32_rg _ | (constructor <;> omega)) (by first | decide | assumption | exact hK.V.b _ | exact w32_rg _ | (constructor <;> omega)) (fun c22 => ?_) (fun c22 => ?_)
                      · refine zF_aload_n 372 dL_isClosed_371 rfl rfl ?_
                        refine zF_iconst 373 dL_isClosed_372 rfl ?_
                        refine zF_iconst 374 dL_isClosed_373 rfl ?_
                        refine zF_callVi 377 (d2 := (d + 10)) (as := [zI 0, zI 0]) dL_isClosed_374 rfl kL_227 iX11_closed (ci := 11) rfl eX11_closed (Nat.le_refl _) L201.1.bk L201.1.bl rfl rfl (Nat.le_of_ble_eq_true rfl) ((show zP1 G mX11_closed _ _ σs201 ((clN N) (212 + 5 * 0 + 0)) from qL_closed (d := d + 2) hGd K2 (by omega) (by omega) (by omega) (by omega))) ?_
                        refine zF_iload 379 dL_isClosed_377 rfl rfl ?_
                        refine zF_icmp_ne 412 382 dL_isClosed_379 rfl rfl (by first | decide | assumption | exact hK.V.b _ | exact w32_rg _ | (constructor <;> omega)) (by first | decide | assumption | exact hK.V.b _ | exact w32_rg _ | (constructor <;> omega)) (fun c23 => ?_) (fun c23 => ?_)
                        · refine zF_iconst 413 dL_isClosed_412 rfl ?_
                          exact zF_zreturn dL_isClosed_413 rfl (by decide) (by exfalso; omega)
                        · refine zF_aload_n 383 dL_isClosed_382 rfl rfl ?_
                          refine zF_iconst 384 dL_isClosed_383 rfl ?_
                          refine zF_iconst 385 dL_isClosed_384 rfl ?_
                          refine zF_callVi 388 (d2 := (d + 10)) (as := [zI 0, zI 4]) dL_isClosed_385 rfl kL_227 iX11_closed (ci := 11) rfl eX11_closed (Nat.le_refl _) L201.1.bk L201.1.bl rfl rfl (Nat.le_of_ble_eq_true rfl) ((show zP1 G mX11_closed _ _ σs201 ((clN N) (212 + 5 * 0 + 4)) from qL_closed (d := d + 2) hGd K2 (by omega) (by omega) (by omega) (by omega))) ?_
                          refine zF_iload 390 dL_isClosed_388 rfl rfl ?_
                          refine zF_icmp_ne 412 393 dL_isClosed_390 rfl rfl (by first | decide | assumption | exact hK.V.b _ | exact w32_rg _ | (constructor <;> omega)) (by first | decide | assumption | exact hK.V.b _ | exact w32_rg _ | (constructor <;> omega)) (fun c24 => ?_) (fun c24 => ?_)
                          · refine zF_iconst 413 dL_isClosed_412 rfl ?_
                            exact zF_zreturn dL_isClosed_413 rfl (by decide) (by exfalso; omega)
                          · refine zF_aload_n 394 dL_isClosed_393 rfl rfl ?_
                            refine zF_bipush 396 dL_isClosed_394 rfl (by decide) ?_
                            refine zF_callVi 399 (d2 := (d + 10)) (as := [zI 7]) dL_isClosed_396 rfl kL_110 iX11_size (ci := 11) rfl eX11_size (Nat.le_refl _) L201.1.bk L201.1.bl rfl rfl (Nat.le_of_ble_eq_true rfl) ((show zP1 G mX11_size _ _ σs201 (sSize (clN N) 7) from qL_size (d := d + 2) hGd K2 (by omega) (by omega))) ?_
                            refine zF_iload 401 dL_isClosed_399 rfl rfl ?_
                            refine zF_icmp_ne 412 404 dL_isClosed_401 rfl rfl (by first | decide | assumption | exact hK.V.b _ | exact w32_rg _ | (constructor <;> omega)) (by first | decide | assumption | exact hK.V.b _ | exact w32_rg _ | (constructor <;> omega)) (fun c25 => ?_) (fun c25 => ?_)
                            · refine zF_iconst 413 dL_isClosed_412 rfl ?_
                              exact zF_zreturn dL_isClosed_413 rfl (by decide) (by exfalso; omega)
                            · refine zF_aload_n 405 dL_isClosed_404 rfl rfl ?_
                              refine zF_iconst 406 dL_isClosed_405 rfl ?_
                              refine zF_callVi 409 (d2 := (d + 10)) (as := [zI 5]) dL_isClosed_406 rfl kL_110 iX11_size (ci := 11) rfl eX11_size (Nat.le_refl _) L201.1.bk L201.1.bl rfl rfl (Nat.le_of_ble_eq_true rfl) ((show zP1 G mX11_size _ _ σs201 ((clN N) 5) from qL_size (d := d + 2) hGd K2 (by omega) (by omega))) ?_
                              refine zF_if_eq 414 412 dL_isClosed_409 rfl rfl (by first | decide | assumption | exact hK.V.b _ | exact w32_rg _ | (constructor <;> omega)) (fun c26 => ?_) (fun c26 => ?_)
                              · refine zF_aload_n 415 dL_isClosed_414 rfl rfl ?_
                                refine zF_callS 418 (d2 := (d + 10)) (as := [zR (B0 0)]) dL_isClosed_415 rfl kL_229 sL_isSound (Nat.le_refl _) rfl rfl (Nat.le_of_ble_eq_true rfl) (zE.mono (zt_L_isSound (d := d + 0) hGd K2) fun ro σs415 hh415 => ?_)
                                obtain ⟨er415, fr415⟩ := hh415
                                subst er415
                                refine ⟨fr415.1, ?_⟩
                                have L415 := L201.sc fr415
                                show zF G mL_isClosed (d + 11) 418 [(12, zI (((nS N) : Nat) : Int)), (11, zI (zsum (fun s => zb (mHold N s)) (nS N))), (10, zI (N 4 * N 5)), (9, zR (zn σ + 2)), (8, zI (zsum (fun s => mS N s 3) (nS N))), (7, zI (zsum (fun h => cShN N h (nF N)) (nH N))), (6, zI (cAllN N (nS N))), (5, zR (zn σ + 1)), (4, zR (zn σ)), (3, zI (N 1)), (1, zL (aV N)), (0, zR (B0 0))] [zI 1] σs415 _
                                refine zF_if_eq 441 421 dL_isClosed_418 rfl rfl (by first | decide | assumption | exact hK.V.b _ | exact w32_rg _ | (constructor <;> omega)) (fun c27 => ?_) (fun c27 => ?_)
                                · exact absurd c27 (by first | decide | simp)
                                · refine zF_aload_n 422 dL_isClosed_421 rfl rfl ?_
                                  refine zF_callV 425 (d2 := (d + 10)) (as := []) dL_isClosed_422 rfl kL_220 iX11_undo (ci := 11) rfl eX11_undo (Nat.le_refl _) L415.1.bk L415.1.bl rfl rfl (Nat.le_of_ble_eq_true rfl) (zE.mono (pL_undo (d := d + 3) hGd L415) fun ro σs422 hh422 => ?_)
                                  obtain ⟨er422, fr422, L422⟩ := hh422
                                  subst er422
                                  refine ⟨fr422.1, ?_⟩
                                  obtain ⟨ou1, ou2, ou3⟩ := oUn_rec (N := N) (H := H) (u := u) (N' := clN N) u0 hu
                                  rw [ou1] at L422
                                  rw [ou2]
                                  show zF G mL_isClosed (d + 11) 425 [(12, zI (((nS N) : Nat) : Int)), (11, zI (zsum (fun s => zb (mHold N s)) (nS N))), (10, zI (N 4 * N 5)), (9, zR (zn σ + 2)), (8, zI (zsum (fun s => mS N s 3) (nS N))), (7, zI (zsum (fun h => cShN N h (nF N)) (nH N))), (6, zI (cAllN N (nS N))), (5, zR (zn σ + 1)), (4, zR (zn σ)), (3, zI (N 1)), (1, zL (aV N)), (0, zR (B0 0))] [zI u] σs422 _
                                  refine zF_if_lt 441 428 dL_isClosed_425 rfl rfl (by first | decide | assumption | exact hK.V.b _ | exact w32_rg _ | (constructor <;> omega)) (fun c28 => ?_) (fun c28 => ?_)
                                  · refine zF_iconst 442 dL_isClosed_441 rfl ?_
                                    exact zF_zreturn dL_isClosed_442 rfl (by decide) (by exfalso; omega)
                                  · refine zF_aload_n 429 dL_isClosed_428 rfl rfl ?_
                                    refine zF_callS 432 (d2 := (d + 10)) (as := [zR (B0 0)]) dL_isClosed_429 rfl kL_210 sL_all (Nat.le_refl _) rfl rfl (Nat.le_of_ble_eq_true rfl) (zE.mono (zt_L_all (d := d + 1) hGd L422.K) fun ro σx429 hh429 => ?_)
                                    obtain ⟨es429, er429⟩ := hh429
                                    replace es429 := es429.symm
                                    subst es429
                                    subst er429
                                    refine ⟨rfl, ?_⟩
                                    show zF G mL_isClosed (d + 11) 432 [(12, zI (((nS N) : Nat) : Int)), (11, zI (zsum (fun s => zb (mHold N s)) (nS N))), (10, zI (N 4 * N 5)), (9, zR (zn σ + 2)), (8, zI (zsum (fun s => mS N s 3) (nS N))), (7, zI (zsum (fun h => cShN N h (nF N)) (nH N))), (6, zI (cAllN N (nS N))), (5, zR (zn σ + 1)), (4, zR (zn σ)), (3, zI (N 1)), (1, zL (aV N)), (0, zR (B0 0))] [zL (aV N)] σs422 _
                                    refine zF_lload_n 433 dL_isClosed_432 rfl rfl ?_
                                    refine zF_Lw2 ?_
                                    refine zF_lcmp 434 dL_isClosed_433 rfl (w64_rg _) (w64_rg _) ?_
                                    rw [zlcm_self]
                                    refine zF_if_ne 441 437 dL_isClosed_434 rfl rfl (by first | decide | assumption | exact hK.V.b _ | exact w32_rg _ | (constructor <;> omega)) (fun c29 => ?_) (fun c29 => ?_)
                                    · exact absurd c29 (by first | decide | simp)
                                    · refine zF_iconst 438 dL_isClosed_437 rfl ?_
                                      refine zF_goto 442 dL_isClosed_438 rfl ?_
                                      exact zF_zreturn dL_isClosed_442 rfl (by decide) (⟨rfl, (mA.tr (zMu_fr (cSc_mu fr415))).tr (zMu_fr fr422), ⟨by rw [fr422.1, fr415.1, nS1]; exact Nat.le_refl _, by rw [fr422.2.2.2.1, fr415.2.2.2.1, fr201.2.2.2.1]; exact cA, by rw [fr422.2.2.2.2.1, fr415.2.2.2.2.1, fr201.2.2.2.2.1]; exact sA⟩, hsR H u N, L422, ou3⟩)
                              · refine zF_iconst 413 dL_isClosed_412 rfl ?_
                                exact zF_zreturn dL_isClosed_413 rfl (by decide) (by exfalso; omega)
                      · exact absurd c22 (by omega)
                  · refine zF_iconst 270 dL_isClosed_269 rfl ?_
                    exact zF_zreturn dL_isClosed_270 rfl (by decide) (by exfalso; omega)
        · exact absurd c4 (by omega)
    · refine zF_aload 66 dL_isClosed_64 rfl rfl ?_
      refine zF_iload 68 dL_isClosed_66 rfl rfl ?_
      refine zF_aload_n 69 dL_isClosed_68 rfl rfl ?_
      refine zF_iload 71 dL_isClosed_69 rfl rfl ?_
      refine zF_callVi 74 (d2 := (d + 10)) (as := [zI ((x : Nat) : Int)]) dL_isClosed_71 rfl kL_223 iX11_wouldHold (ci := 11) rfl eX11_wouldHold (Nat.le_refl _) L58.1.bk L58.1.bl rfl rfl (Nat.le_of_ble_eq_true rfl) ((show zP1 G mX11_wouldHold _ _ σ58 (zb (mHold N ((x : Nat) : Int))) from qL_wouldHold (d := d + 2) hGd K58 (by omega) (by omega))) ?_
      refine zF_zastore 75 dL_isClosed_74 rfl k1 (show (zn σ) < zn σ58 by omega) (by omega) (by omega) (zb01 _) ?_
      refine zF_aload 77 dL_isClosed_75 rfl rfl ?_
      refine zF_iload 79 dL_isClosed_77 rfl rfl ?_
      refine zF_aload_n 80 dL_isClosed_79 rfl rfl ?_
      refine zF_iload 82 dL_isClosed_80 rfl rfl ?_
      refine zF_bipush 84 dL_isClosed_82 rfl (by decide) ?_
      refine zF_callVi 87 (d2 := (d + 10)) (as := [zI ((x : Nat) : Int), zI 6]) dL_isClosed_84 rfl kL_197 iX11_shown (ci := 11) rfl eX11_shown (Nat.le_refl _) (hL.gx (g58.si (by omega) (by omega)) h228).1.bk (hL.gx (g58.si (by omega) (by omega)) h228).1.bl rfl rfl (Nat.le_of_ble_eq_true rfl) ((show zP1 G mX11_shown _ _ (zsi σ58 (zn σ) ((x : Nat) : Int) (zb (mHold N ((x : Nat) : Int)))) (mSh N ((x : Nat) : Int) 6) from qL_shown (d := d + 2) hGd (hL.gx (g58.si (by omega) (by omega)) h228).K (by omega) (by omega) (by omega) (by omega))) ?_
      refine zF_iastore 88 dL_isClosed_87 rfl (show zkd (zsi σ58 (zn σ) ((x : Nat) : Int) (zb (mHold N ((x : Nat) : Int)))) (zn σ + 1) = (1, (nS N)) from k2) (show (zn σ + 1) < zn (zsi σ58 (zn σ) ((x : Nat) : Int) (zb (mHold N ((x : Nat) : Int)))) from (show (zn σ + 1) < zn σ58 by omega)) (by omega) (by omega) ?_
      refine zF_iload 90 dL_isClosed_88 rfl rfl ?_
      refine zF_aload_n 91 dL_isClosed_90 rfl rfl ?_
      refine zF_iload 93 dL_isClosed_91 rfl rfl ?_
      refine zF_bipush 95 dL_isClosed_93 rfl (by decide) ?_
      refine zF_callVi 98 (d2 := (d + 10)) (as := [zI ((x : Nat) : Int), zI 8]) dL_isClosed_95 rfl kL_108 iX11_screen (ci := 11) rfl eX11_screen (Nat.le_refl _) (hL.gx ((g58.si (by omega) (by omega)).si (by omega) (by omega)) h228).1.bk (hL.gx ((g58.si (by omega) (by omega)).si (by omega) (by omega)) h228).1.bl rfl rfl (Nat.le_of_ble_eq_true rfl) ((show zP1 G mX11_screen _ _ (zsi (zsi σ58 (zn σ) ((x : Nat) : Int) (zb (mHold N ((x : Nat) : Int)))) (zn σ + 1) ((x : Nat) : Int) (mSh N ((x : Nat) : Int) 6)) (cTake N ((x : Nat) : Int)) from qL_screen (d := d + 2) hGd (hL.gx ((g58.si (by omega) (by omega)).si (by omega) (by omega)) h228).K (by omega) (by omega) (by omega) (by omega))) ?_
      refine zF_iadd 99 dL_isClosed_98 rfl ?_
      refine zF_istore 101 (ls' := [(6, zI ((cAllN N x) + (cTake N ((x : Nat) : Int)))), (9, zI ((x : Nat) : Int)), (8, zI (zsum (fun s => mS N s 3) x)), (7, zI 0), (5, zR (zn σ + 1)), (4, zR (zn σ)), (3, zI (N 1)), (1, zL (aV N)), (0, zR (B0 0))]) dL_isClosed_99 rfl (by decide) rfl ?_
      refine zF_iload 103 dL_isClosed_101 rfl rfl ?_
      refine zF_aload_n 104 dL_isClosed_103 rfl rfl ?_
      refine zF_iload 106 dL_isClosed_104 rfl rfl ?_
      refine zF_iconst 107 dL_isClosed_106 rfl ?_
      refine zF_callVi 110 (d2 := (d + 10)) (as := [zI ((x : Nat) : Int), zI 3]) dL_isClosed_107 rfl kL_108 iX11_screen (ci := 11) rfl eX11_screen (Nat.le_refl _) (hL.gx ((g58.si (by omega) (by omega)).si (by omega) (by omega)) h228).1.bk (hL.gx ((g58.si (by omega) (by omega)).si (by omega) (by omega)) h228).1.bl rfl rfl (Nat.le_of_ble_eq_true rfl) ((show zP1 G mX11_screen _ _ (zsi (zsi σ58 (zn σ) ((x : Nat) : Int) (zb (mHold N ((x : Nat) : Int)))) (zn σ + 1) ((x : Nat) : Int) (mSh N ((x : Nat) : Int) 6)) (mS N ((x : Nat) : Int) 3) from qL_screen (d := d + 2) hGd (hL.gx ((g58.si (by omega) (by omega)).si (by omega) (by omega)) h228).K (by omega) (by omega) (by omega) (by omega))) ?_
      refine zF_iadd 111 dL_isClosed_110 rfl ?_
      refine zF_istore 113 (ls' := [(8, zI ((zsum (fun s => mS N s 3) x) + (mS N ((x : Nat) : Int) 3))), (6, zI ((cAllN N x) + (cTake N ((x : Nat) : Int)))), (9, zI ((x : Nat) : Int)), (7, zI 0), (5, zR (zn σ + 1)), (4, zR (zn σ)), (3, zI (N 1)), (1, zL (aV N)), (0, zR (B0 0))]) dL_isClosed_111 rfl (by decide) rfl ?_
      refine zF_iinc 116 (ls' := [(9, zI (((x : Nat) : Int) + 1)), (8, zI ((zsum (fun s => mS N s 3) x) + (mS N ((x : Nat) : Int) 3))), (6, zI ((cAllN N x) + (cTake N ((x : Nat) : Int)))), (7, zI 0), (5, zR (zn σ + 1)), (4, zR (zn σ)), (3, zI (N 1)), (1, zL (aV N)), (0, zR (B0 0))]) dL_isClosed_113 rfl rfl rfl (by decide) rfl ?_
      refine zF_goto 58 dL_isClosed_116 rfl ?_
      exact zF_locs (ls' := [(9, zI (((x + 1) : Nat) : Int)), (8, zI (zsum (fun s => mS N s 3) (x + 1))), (7, zI 0), (6, zI (cAllN N (x + 1))), (5, zR (zn σ + 1)), (4, zR (zn σ)), (3, zI (N 1)), (1, zL (aV N)), (0, zR (B0 0))]) ⟨zlI rfl (by first | rfl | omega | (push_cast; omega) | exact congrArg (_ + ·) (zbT (by assumption)) | exact congrArg (_ + ·) (zbF (by assumption)) | exact congrArg (_ + ·) (zbT (by omega)) | exact congrArg (_ + ·) (zbF (by omega)) | exact congrArg (_ + ·) (if_pos (by omega)).symm | exact congrArg (_ + ·) (if_neg (by omega)).symm | exact (if_pos (by omega)).symm | exact (if_neg (by omega)).symm | exact zsub_s (if_pos (by omega)).symm | exact zsub_s0 (if_neg (by omega)).symm | exact zadd0 (if_neg (by omega)).symm | exact zadd0 (zbF (by omega)) | exact (Int.sub_zero _).symm), zlI rfl (by first | rfl | omega | (push_cast; omega) | exact congrArg (_ + ·) (zbT (by assumption)) | exact congrArg (_ + ·) (zbF (by assumption)) | exact congrArg (_ + ·) (zbT (by omega)) | exact congrArg (_ + ·) (zbF (by omega)) | exact congrArg (_ + ·) (if_pos (by omega)).symm | exact congrArg (_ + ·) (if_neg (by omega)).symm | exact (if_pos (by omega)).symm | exact (if_neg (by omega)).symm | exact zsub_s (if_pos (by omega)).symm | exact zsub_s0 (if_neg (by omega)).symm | exact zadd0 (if_neg (by omega)).symm | exact zadd0 (zbF (by omega)) | exact (Int.sub_zero _).symm), rfl, zlI rfl (by first | rfl | omega | (push_cast; omega) | exact congrArg (_ + ·) (zbT (by assumption)) | exact congrArg (_ + ·) (zbF (by assumption)) | exact congrArg (_ + ·) (zbT (by omega)) | exact congrArg (_ + ·) (zbF (by omega)) | exact congrArg (_ + ·) (if_pos (by omega)).symm | exact congrArg (_ + ·) (if_neg (by omega)).symm | exact (if_pos (by omega)).symm | exact (if_neg (by omega)).symm | exact zsub_s (if_pos (by omega)).symm | exact zsub_s0 (if_neg (by omega)).symm | exact zadd0 (if_neg (by omega)).symm | exact zadd0 (zbF (by omega)) | exact (Int.sub_zero _).symm), rfl, rfl, rfl, rfl, rfl, trivial⟩ (ih58 (x + 1) _ (by omega) (⟨by omega, (g58.si (by omega) (by omega)).si (by omega) (by omega), ⟨n58, cs58, ss58⟩, k1, k2, fun i hi => by
  rw [zia_si, if_neg (by omega), zia_si]
  by_cases c : i = x
  · rw [if_pos ⟨rfl, by omega⟩, c]
  · rw [if_neg (by omega)]; exact q1 i (by omega), fun i hi => by
  rw [zia_si]
  by_cases c : i = x
  · rw [if_pos ⟨rfl, by omega⟩, c]
  · rw [if_neg (by omega), zia_si, if_neg (by omega)]; exact q2 i (by omega)⟩))
  · refine zF_aload_n 11 dL_isClosed_10 rfl rfl ?_
    refine zF_callV 14 (d2 := (d + 10)) (as := []) dL_isClosed_11 rfl kL_140 iX11_close (ci := 11) rfl eX11_close (Nat.le_refl _) hL.1.bk hL.1.bl rfl rfl (Nat.le_of_ble_eq_true rfl) (zE.mono (pL_close60 (d := d + 1) hGd hL hT (by omega)) fun ro σs11 hh11 => ?_)
    obtain ⟨er11, fr11, L11⟩ := hh11
    subst er11
    refine ⟨fr11.1, ?_⟩
    show zF G mL_isClosed (d + 11) 14 [(0, zR (B0 0))] [zI (-2)] σs11 _
    refine zF_bipush 16 dL_isClosed_14 rfl (by decide) ?_
    refine zF_icmp_ne 23 19 dL_isClosed_16 rfl rfl (by first | decide | assumption | exact hK.V.b _ | exact w32_rg _ | (constructor <;> omega)) (by first | decide | assumption | exact hK.V.b _ | exact w32_rg _ | (constructor <;> omega)) (fun c30 => ?_) (fun c30 => ?_)
    · exact absurd c30 (by first | decide | simp)
    · refine zF_iconst 20 dL_isClosed_19 rfl ?_
      refine zF_goto 24 dL_isClosed_20 rfl ?_
      exact zF_zreturn dL_isClosed_24 rfl (by decide) (⟨rfl, zMu_fr fr11, ⟨by rw [fr11.1]; omega, by rw [fr11.2.2.2.1]; omega, by rw [fr11.2.2.2.2.1]; omega⟩, H, L11, fun k _ _ => rfl⟩)
end ZQ6

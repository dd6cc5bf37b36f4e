/-! the law says a text: add, number, word, end -/
section ZT3
variable {G : zG} {M : zMeth} {d pc : Nat} {ls : List (Nat × zV)} {st : List zV} {σ : zMem} {Q : zRes → zMem → Prop} {P : Nat → Int → Prop} {wh : Nat}
theorem and_max {a : Int} : 0 ≤ (Int32.ofInt a &&& Int32.ofInt 2147483647).toInt := by
  have e : (Int32.ofInt a &&& Int32.ofInt 2147483647).toBitVec.msb = false := by
    show ((Int32.ofInt a).toBitVec &&& (Int32.ofInt 2147483647).toBitVec).msb = false
    rw [BitVec.msb_and]
    have q : (Int32.ofInt 2147483647).toBitVec.msb = false := by decide
    rw [q, Bool.and_false]
  show 0 ≤ (Int32.ofInt a &&& Int32.ofInt 2147483647).toBitVec.toInt
  rw [BitVec.toInt_eq_msb_cond, e]
  exact Int.natCast_nonneg _
theorem zt_L_most {a m : Int} (m0 : 0 < m) (zm : zrg m) : zE G mL_most d [zI a, zI m] σ (fun ro σ1 => σ1 = σ ∧ ∃ z : Int, ro = .inl (some (zI z)) ∧ 0 ≤ z ∧ z < m) := by
  refine zE_of rfl (by simp [zcat]) (Nat.le_of_ble_eq_true rfl) ?_
  show zF G mL_most d 0 [(0, zI a), (1, zI m)] [] σ _
  have zz : zrg ((Int32.ofInt a &&& Int32.ofInt 2147483647).toInt) := ⟨Int32.minValue_le_toInt _, Int32.toInt_lt _⟩
  refine zF_iload_n 1 dL_most_0 rfl rfl ?_
  refine zF_ldc 3 dL_most_1 rfl oL_7 ?_
  refine zF_iand 4 dL_most_3 rfl ?_
  refine zF_iload_n 5 dL_most_4 rfl rfl ?_
  refine zF_irem 6 dL_most_5 rfl (and_max) (zz.2) (m0) (zm.2) ?_
  exact zF_ireturn dL_most_6 rfl (⟨rfl, _, rfl, Int.emod_nonneg _ (by omega), Int.emod_lt_of_pos _ m0⟩)
theorem zt_L_cell {L : Nat} {xs : Nat → Int32} {k : Nat} (hX : zSx G L xs) (hk : k < 1000) : zE G mL_cell d [zR (zbg + 500), zI ((k : Nat) : Int)] σ (fun ro σ1 => σ1 = σ ∧ ∃ z : Int, ro = .inl (some (zI z)) ∧ zrg z) := by
  refine zE_of rfl (by simp [zcat]) (Nat.le_of_ble_eq_true rfl) ?_
  show zF G mL_cell d 0 [(0, zR (zbg + 500)), (1, zI ((k : Nat) : Int))] [] σ _
  have hL := hX.2.2
  refine zF_iload_n 1 dL_cell_0 rfl rfl ?_
  refine zF_aload_n 2 dL_cell_1 rfl rfl ?_
  refine zF_slen 3 dL_cell_2 rfl hX ?_
  refine zF_icmp_ge 12 6 dL_cell_3 rfl rfl (by first | decide | assumption | (constructor <;> omega)) (by first | decide | assumption | (constructor <;> omega)) (fun c1 => ?_) (fun c1 => ?_)
  · refine zF_bipush 14 dL_cell_12 rfl (by decide) ?_
    refine zF_iload_n 15 dL_cell_14 rfl rfl ?_
    refine zF_imul 16 dL_cell_15 rfl ?_
    exact zF_ireturn dL_cell_16 rfl (⟨rfl, _, rfl, by first | exact zrg_x _ | (constructor <;> omega)⟩)
  · refine zF_aload_n 7 dL_cell_6 rfl rfl ?_
    refine zF_iload_n 8 dL_cell_7 rfl rfl ?_
    refine zF_sload 9 dL_cell_8 rfl hX (by omega) (by omega) ?_
    refine zF_goto 16 dL_cell_9 rfl ?_
    exact zF_ireturn dL_cell_16 rfl (⟨rfl, _, rfl, by first | exact zrg_x _ | (constructor <;> omega)⟩)
set_option maxRecDepth 20000 in
theorem zt_L_add {l : List Nat} {b : Nat} (hS : pSh σ) (hT : tI l wh σ) (hb : b < 128) (h7 : l.length < 700) (hz : wh < zbg) : zE G mL_add (d + 7) [zR (B0 0), zR wh, zI ((b : Nat) : Int)] σ (fun ro σ1 => ro = .inl none ∧ zFr (tFr wh) σ σ1 ∧ tI (l ++ [b]) wh σ1) := by
  refine zE_of rfl (by simp [zcat]) (Nat.le_of_ble_eq_true rfl) ?_
  show zF G mL_add (d + 7) 0 [(0, zR (B0 0)), (1, zR wh), (2, zI ((b : Nat) : Int))] [] σ _
  have hw0 : ∀ k, B0 k ≠ wh := fun k => B0_w hT.2.1.1 hz k
  have hll := hT.2.2.1
  have hln : (l ++ [b]).length = l.length + 1 := by rw [List.length_append]; rfl
  have hlb : ∀ x ∈ l ++ [b], x < 128 := fun x hx => (List.mem_append.mp hx).elim (hT.2.2.1.1 x) (fun q => by rw [List.mem_singleton.mp q]; exact hb)
  refine zF_aload_n 1 dL_add_0 rfl rfl ?_
  refine zF_aload_n 2 dL_add_1 rfl rfl ?_
  refine zF_iconst 3 dL_add_2 rfl ?_
  refine zF_iaload 4 dL_add_3 rfl (show zkd σ wh = (1, 6) from hT.1) (show wh < zn σ from hT.2.1.2) (by omega) (by omega) hT.2.2.2.1 ?_
  refine zF_bipush 6 dL_add_4 rfl (by decide) ?_
  refine zF_irem 7 dL_add_6 rfl (by omega) (by omega) (by omega) (by omega) ?_
  refine zF_iconst 8 dL_add_7 rfl ?_
  refine zF_idiv 9 dL_add_8 rfl (by omega) (by omega) (by omega) (by omega) ?_
  refine zF_dup2 10 dL_add_9 rfl rfl rfl ?_
  refine zF_iaload 11 dL_add_10 rfl (show zkd σ wh = (1, 6) from hT.1) (show wh < zn σ from hT.2.1.2) (by omega) (by omega) (show zia σ wh ((((l.length : Nat) : Int) % 20) / 4) = ((pkB (fun i => l.getD (20 * (l.length / 20) + 4 * (l.length % 20 / 4) + i) 0) : Nat) : Int) from by rw [show ((l.length : Nat) : Int) % 20 / 4 = ((l.length % 20 / 4 : Nat) : Int) by omega]; exact hT.2.2.2.2.2.2 _ (by omega)) ?_
  refine zF_iload_n 12 dL_add_11 rfl rfl ?_
  refine zF_bipush 14 dL_add_12 rfl (by decide) ?_
  refine zF_bipush 16 dL_add_14 rfl (by decide) ?_
  refine zF_aload_n 17 dL_add_16 rfl rfl ?_
  refine zF_iconst 18 dL_add_17 rfl ?_
  refine zF_iaload 19 dL_add_18 rfl (show zkd σ wh = (1, 6) from hT.1) (show wh < zn σ from hT.2.1.2) (by omega) (by omega) hT.2.2.2.1 ?_
  refine zF_iconst 20 dL_add_19 rfl ?_
  refine zF_irem 21 dL_add_20 rfl (by omega) (by omega) (by omega) (by omega) ?_
  refine zF_imul 22 dL_add_21 rfl ?_
  refine zF_isub 23 dL_add_22 rfl ?_
  refine zF_ishl 24 dL_add_23 rfl ?_
  refine zF_I (b := ((b <<< (24 - 8 * (l.length % 4)) : Nat) : Int)) (ad_shl hb) ?_
  refine zF_ior 25 dL_add_24 rfl ?_
  refine zF_I (b := ((pkB (fun i => (l ++ [b]).getD (20 * (l.length / 20) + 4 * (l.length % 20 / 4) + i) 0) : Nat) : Int)) (ad_or hT.2.2.1.1 hb) ?_
  refine zF_iastore 26 dL_add_25 rfl (show zkd σ wh = (1, 6) from hT.1) (show wh < zn σ from hT.2.1.2) (by omega) (by omega) ?_
  refine zF_aload_n 27 dL_add_26 rfl rfl ?_
  refine zF_iconst 28 dL_add_27 rfl ?_
  refine zF_dup2 29 dL_add_28 rfl rfl rfl ?_
  refine zF_iaload 30 dL_add_29 rfl (show zkd (zsi σ wh ((((l.length : Nat) : Int) % 20) / 4) ((pkB (fun i => (l ++ [b]).getD (20 * (l.length / 20) + 4 * (l.length % 20 / 4) + i) 0) : Nat) : Int)) wh = (1, 6) from hT.1) (show wh < zn (zsi σ wh ((((l.length : Nat) : Int) % 20) / 4) ((pkB (fun i => (l ++ [b]).getD (20 * (l.length / 20) + 4 * (l.length % 20 / 4) + i) 0) : Nat) : Int)) from hT.2.1.2) (by omega) (by omega) (show zia (zsi σ wh ((((l.length : Nat) : Int) % 20) / 4) ((pkB (fun i => (l ++ [b]).getD (20 * (l.length / 20) + 4 * (l.length % 20 / 4) + i) 0) : Nat) : Int)) wh 5 = ((l.length : Nat) : Int) from by rw [zia_si, if_neg (by omega)]; exact hT.2.2.2.1) ?_
  refine zF_iconst 31 dL_add_30 rfl ?_
  refine zF_iadd 32 dL_add_31 rfl ?_
  refine zF_iastore 33 dL_add_32 rfl (show zkd (zsi σ wh ((((l.length : Nat) : Int) % 20) / 4) ((pkB (fun i => (l ++ [b]).getD (20 * (l.length / 20) + 4 * (l.length % 20 / 4) + i) 0) : Nat) : Int)) wh = (1, 6) from hT.1) (show wh < zn (zsi σ wh ((((l.length : Nat) : Int) % 20) / 4) ((pkB (fun i => (l ++ [b]).getD (20 * (l.length / 20) + 4 * (l.length % 20 / 4) + i) 0) : Nat) : Int)) from hT.2.1.2) (by omega) (by omega) ?_
  refine zF_aload_n 34 dL_add_33 rfl rfl ?_
  refine zF_iconst 35 dL_add_34 rfl ?_
  refine zF_iaload 36 dL_add_35 rfl (show zkd (zsi (zsi σ wh ((((l.length : Nat) : Int) % 20) / 4) ((pkB (fun i => (l ++ [b]).getD (20 * (l.length / 20) + 4 * (l.length % 20 / 4) + i) 0) : Nat) : Int)) wh 5 (((l.length : Nat) : Int) + 1)) wh = (1, 6) from hT.1) (show wh < zn (zsi (zsi σ wh ((((l.length : Nat) : Int) % 20) / 4) ((pkB (fun i => (l ++ [b]).getD (20 * (l.length / 20) + 4 * (l.length % 20 / 4) + i) 0) : Nat) : Int)) wh 5 (((l.length : Nat) : Int) + 1)) from hT.2.1.2) (by omega) (by omega) (zsi_same _ _ _ _) ?_
  refine zF_bipush 38 dL_add_36 rfl (by decide) ?_
  refine zF_irem 39 dL_add_38 rfl (by omega) (by omega) (by omega) (by omega) ?_
  refine zF_if_eq 43 42 dL_add_39 rfl rfl (by first | decide | assumption | (constructor <;> omega)) (fun c1 => ?_) (fun c1 => ?_)
  · refine zF_aload_n 44 dL_add_43 rfl rfl ?_
    refine zF_aload_n 45 dL_add_44 rfl rfl ?_
    refine zF_iconst 46 dL_add_45 rfl ?_
    refine zF_iaload 47 dL_add_46 rfl (show zkd (zsi (zsi σ wh ((((l.length : Nat) : Int) % 20) / 4) ((pkB (fun i => (l ++ [b]).getD (20 * (l.length / 20) + 4 * (l.length % 20 / 4) + i) 0) : Nat) : Int)) wh 5 (((l.length : Nat) : Int) + 1)) wh = (1, 6) from hT.1) (show wh < zn (zsi (zsi σ wh ((((l.length : Nat) : Int) % 20) / 4) ((pkB (fun i => (l ++ [b]).getD (20 * (l.length / 20) + 4 * (l.length % 20 / 4) + i) 0) : Nat) : Int)) wh 5 (((l.length : Nat) : Int) + 1)) from hT.2.1.2) (by omega) (by omega) (ad_row hT (by omega) rfl 0 (by omega)) ?_
    refine zF_aload_n 48 dL_add_47 rfl rfl ?_
    refine zF_iconst 49 dL_add_48 rfl ?_
    refine zF_iaload 50 dL_add_49 rfl (show zkd (zsi (zsi σ wh ((((l.length : Nat) : Int) % 20) / 4) ((pkB (fun i => (l ++ [b]).getD (20 * (l.length / 20) + 4 * (l.length % 20 / 4) + i) 0) : Nat) : Int)) wh 5 (((l.length : Nat) : Int) + 1)) wh = (1, 6) from hT.1) (show wh < zn (zsi (zsi σ wh ((((l.length : Nat) : Int) % 20) / 4) ((pkB (fun i => (l ++ [b]).getD (20 * (l.length / 20) + 4 * (l.length % 20 / 4) + i) 0) : Nat) : Int)) wh 5 (((l.length : Nat) : Int) + 1)) from hT.2.1.2) (by omega) (by omega) (ad_row hT (by omega) rfl 1 (by omega)) ?_
    refine zF_aload_n 51 dL_add_50 rfl rfl ?_
    refine zF_iconst 52 dL_add_51 rfl ?_
    refine zF_iaload 53 dL_add_52 rfl (show zkd (zsi (zsi σ wh ((((l.length : Nat) : Int) % 20) / 4) ((pkB (fun i => (l ++ [b]).getD (20 * (l.length / 20) + 4 * (l.length % 20 / 4) + i) 0) : Nat) : Int)) wh 5 (((l.length : Nat) : Int) + 1)) wh = (1, 6) from hT.1) (show wh < zn (zsi (zsi σ wh ((((l.length : Nat) : Int) % 20) / 4) ((pkB (fun i => (l ++ [b]).getD (20 * (l.length / 20) + 4 * (l.length % 20 / 4) + i) 0) : Nat) : Int)) wh 5 (((l.length : Nat) : Int) + 1)) from hT.2.1.2) (by omega) (by omega) (ad_row hT (by omega) rfl 2 (by omega)) ?_
    refine zF_aload_n 54 dL_add_53 rfl rfl ?_
    refine zF_iconst 55 dL_add_54 rfl ?_
    refine zF_iaload 56 dL_add_55 rfl (show zkd (zsi (zsi σ wh ((((l.length : Nat) : Int) % 20) / 4) ((pkB (fun i => (l ++ [b]).getD (20 * (l.length / 20) + 4 * (l.length % 20 / 4) + i) 0) : Nat) : Int)) wh 5 (((l.length : Nat) : Int) + 1)) wh = (1, 6) from hT.1) (show wh < zn (zsi (zsi σ wh ((((l.length : Nat) : Int) % 20) / 4) ((pkB (fun i => (l ++ [b]).getD (20 * (l.length / 20) + 4 * (l.length % 20 / 4) + i) 0) : Nat) : Int)) wh 5 (((l.length : Nat) : Int) + 1)) from hT.2.1.2) (by omega) (by omega) (ad_row hT (by omega) rfl 3 (by omega)) ?_
    refine zF_aload_n 57 dL_add_56 rfl rfl ?_
    refine zF_iconst 58 dL_add_57 rfl ?_
    refine zF_iaload 59 dL_add_58 rfl (show zkd (zsi (zsi σ wh ((((l.length : Nat) : Int) % 20) / 4) ((pkB (fun i => (l ++ [b]).getD (20 * (l.length / 20) + 4 * (l.length % 20 / 4) + i) 0) : Nat) : Int)) wh 5 (((l.length : Nat) : Int) + 1)) wh = (1, 6) from hT.1) (show wh < zn (zsi (zsi σ wh ((((l.length : Nat) : Int) % 20) / 4) ((pkB (fun i => (l ++ [b]).getD (20 * (l.length / 20) + 4 * (l.length % 20 / 4) + i) 0) : Nat) : Int)) wh 5 (((l.length : Nat) : Int) + 1)) from hT.2.1.2) (by omega) (by omega) (ad_row hT (by omega) rfl 4 (by omega)) ?_
    refine zF_callV 62 (d2 := (d + 6)) (as := [zI ((pkB (fun i => (l ++ [b]).getD (20 * (l.length / 20) + 4 * 0 + i) 0) : Nat) : Int), zI ((pkB (fun i => (l ++ [b]).getD (20 * (l.length / 20) + 4 * 1 + i) 0) : Nat) : Int), zI ((pkB (fun i => (l ++ [b]).getD (20 * (l.length / 20) + 4 * 2 + i) 0) : Nat) : Int), zI ((pkB (fun i => (l ++ [b]).getD (20 * (l.length / 20) + 4 * 3 + i) 0) : Nat) : Int), zI ((pkB (fun i => (l ++ [b]).getD (20 * (l.length / 20) + 4 * 4 + i) 0) : Nat) : Int)]) dL_add_59 rfl kL_8 iX11_feed (ci := 11) rfl eX11_feed (Nat.le_refl _) (show pSh (zsi (zsi σ wh ((((l.length : Nat) : Int) % 20) / 4) ((pkB (fun i => (l ++ [b]).getD (20 * (l.length / 20) + 4 * (l.length % 20 / 4) + i) 0) : Nat) : Int)) wh 5 (((l.length : Nat) : Int) + 1)) from hS).bk (show pSh (zsi (zsi σ wh ((((l.length : Nat) : Int) % 20) / 4) ((pkB (fun i => (l ++ [b]).getD (20 * (l.length / 20) + 4 * (l.length % 20 / 4) + i) 0) : Nat) : Int)) wh 5 (((l.length : Nat) : Int) + 1)) from hS).bl rfl rfl (Nat.le_of_ble_eq_true rfl) (zE.mono (zt_X11_feed (σ := (zsi (zsi σ wh ((((l.length : Nat) : Int) % 20) / 4) ((pkB (fun i => (l ++ [b]).getD (20 * (l.length / 20) + 4 * (l.length % 20 / 4) + i) 0) : Nat) : Int)) wh 5 (((l.length : Nat) : Int) + 1))) (c := ((20 * (l.length / 20) : Nat) : Int)) (show pSh (zsi (zsi σ wh ((((l.length : Nat) : Int) % 20) / 4) ((pkB (fun i => (l ++ [b]).getD (20 * (l.length / 20) + 4 * (l.length % 20 / 4) + i) 0) : Nat) : Int)) wh 5 (((l.length : Nat) : Int) + 1)) from hS).cO (show pSh (zsi (zsi σ wh ((((l.length : Nat) : Int) % 20) / 4) ((pkB (fun i => (l ++ [b]).getD (20 * (l.length / 20) + 4 * (l.length % 20 / 4) + i) 0) : Nat) : Int)) wh 5 (((l.length : Nat) : Int) + 1)) from hS).tl.1 (show pSh (zsi (zsi σ wh ((((l.length : Nat) : Int) % 20) / 4) ((pkB (fun i => (l ++ [b]).getD (20 * (l.length / 20) + 4 * (l.length % 20 / 4) + i) 0) : Nat) : Int)) wh 5 (((l.length : Nat) : Int) + 1)) from hS).tl.2 (by rw [zia_si, if_neg (fun z => hw0 0 z.1), zia_si, if_neg (fun z => hw0 0 z.1)]; exact hT.2.2.2.2.1) (by omega) (by omega) (pk_rg hlb _) (pk_rg hlb _) (pk_rg hlb _) (pk_rg hlb _) (pk_rg hlb _)) fun ro σa hh => ?_)
    rw [if_pos (by omega)] at hh
    obtain ⟨er, fr, ec, eb⟩ := hh
    subst er
    refine ⟨fr.1, ?_⟩
    show zF G mL_add (d + 7) 62 [(0, zR (B0 0)), (1, zR wh), (2, zI ((b : Nat) : Int))] [zI (((20 * (l.length / 20) : Nat) : Int) + 20)] σa _
    have fa : zFr (tFr wh) σ σa := (zFr_si (Or.inl rfl) (zFr_si (Or.inl rfl) zFr.rf)).tr (fr.wk fun _ _ q => Or.inr q)
    have kwa : ∀ j, zia σa wh j = zia (zsi (zsi σ wh (((l.length : Nat) : Int) % 20 / 4) ((pkB (fun i => (l ++ [b]).getD (20 * (l.length / 20) + 4 * (l.length % 20 / 4) + i) 0) : Nat) : Int)) wh 5 (((l.length : Nat) : Int) + 1)) wh j := fun j => fr.2.2.2.2.2 wh j (fun q => q.elim (fun q => hw0 0 q.1.symm) (fun q => hw0 10 q.symm))
    refine zF_pop 63 dL_add_62 rfl rfl ?_
    refine zF_iconst 64 dL_add_63 rfl ?_
    refine zF_istore_n 65 (ls' := [(3, zI 0), (0, zR (B0 0)), (1, zR wh), (2, zI ((b : Nat) : Int))]) dL_add_64 rfl (by decide) rfl ?_
    refine zF_locs (ls' := [(3, zI ((0 : Nat) : Int)), (0, zR (B0 0)), (1, zR wh), (2, zI ((b : Nat) : Int))]) ⟨zlI rfl (by first | rfl | omega | (push_cast; omega) | exact congrArg (_ + ·) (zbT (by assumption)) | exact congrArg (_ + ·) (zbF (by assumption)) | exact congrArg (_ + ·) (zbT (by omega)) | exact congrArg (_ + ·) (zbF (by omega)) | exact congrArg (_ + ·) (if_pos (by omega)).symm | exact congrArg (_ + ·) (if_neg (by omega)).symm | exact (if_pos (by omega)).symm | exact (if_neg (by omega)).symm | exact zsub_s (if_pos (by omega)).symm | exact zsub_s0 (if_neg (by omega)).symm | exact zadd0 (if_neg (by omega)).symm | exact zadd0 (zbF (by omega)) | exact (Int.sub_zero _).symm), rfl, rfl, rfl, trivial⟩ ?_
    refine zF_while (X := Nat) (fun x => 5 - x) (fun x σ3 => x ≤ 5 ∧ zFr (tFr wh) σ σ3 ∧ zia σ3 wh 5 = ((l.length : Nat) : Int) + 1 ∧ zia σ3 (B0 0) ((1 : Nat) : Int) = ((20 * (l.length / 20) : Nat) : Int) + 20 ∧ (∀ j, zia σ3 (B0 10) j = zia σa (B0 10) j) ∧ ∀ k : Nat, k < x → zia σ3 wh k = 0) (fun x => [(3, zI ((x : Nat) : Int)), (0, zR (B0 0)), (1, zR wh), (2, zI ((b : Nat) : Int))]) ?_ 0 σa (⟨by omega, fa, (kwa 5).trans (zsi_same _ _ _ _), ec, fun j => rfl, fun k hk => absurd hk (by omega)⟩)
    intro x σ3 hI65 ih65
    show zF G mL_add (d + 7) 65 [(3, zI ((x : Nat) : Int)), (0, zR (B0 0)), (1, zR wh), (2, zI ((b : Nat) : Int))] [] σ3 _
    obtain ⟨hx, f3, w5, e3, b3, z3⟩ := hI65
    refine zF_iload_n 66 dL_add_65 rfl rfl ?_
    refine zF_iconst 67 dL_add_66 rfl ?_
    refine zF_icmp_ge 80 70 dL_add_67 rfl rfl (by first | decide | assumption | (constructor <;> omega)) (by first | decide | assumption | (constructor <;> omega)) (fun c2 => ?_) (fun c2 => ?_)
    · exact zF_return dL_add_80 rfl (by
      have ex : x = 5 := (by omega)
      subst ex
      have e20 : 20 * ((l.length + 1) / 20) = l.length + 1 := by omega
      refine ⟨rfl, f3, by rw [f3.2.1]; exact hT.1, ⟨hT.2.1.1, by rw [f3.1]; exact hT.2.1.2⟩, ⟨hlb, by omega⟩, by rw [w5, hln]; rfl, by rw [e3, hln, e20]; omega, fun j hj => ?_, fun k hk => ?_⟩
      · rw [hln, e20] at hj
        rw [b3, eb]
        by_cases c : j < 20 * (l.length / 20)
        · rw [if_neg (by omega), zia_si, if_neg (fun z => hw0 10 z.1), zia_si, if_neg (fun z => hw0 10 z.1), tg_app, if_neg (by omega)]
          exact hT.2.2.2.2.2.1 j c
        · rw [if_pos (by omega), show (j : Int) - ((20 * (l.length / 20) : Nat) : Int) = ((j - 20 * (l.length / 20) : Nat) : Int) by omega, fd_by hlb (by omega), show 20 * (l.length / 20) + (j - 20 * (l.length / 20)) = j by omega]
      · rw [z3 k hk, hln, e20, pkB_congr (g := fun _ => 0) (fun i hi => tg_out (by omega))]
        rfl)
    · refine zF_aload_n 71 dL_add_70 rfl rfl ?_
      refine zF_iload_n 72 dL_add_71 rfl rfl ?_
      refine zF_iconst 73 dL_add_72 rfl ?_
      refine zF_iastore 74 dL_add_73 rfl (show zkd σ3 wh = (1, 6) from (by rw [f3.2.1]; exact hT.1)) (show wh < zn σ3 from (by rw [f3.1]; exact hT.2.1.2)) (by omega) (by omega) ?_
      refine zF_iinc 77 (ls' := [(3, zI (((x : Nat) : Int) + 1)), (0, zR (B0 0)), (1, zR wh), (2, zI ((b : Nat) : Int))]) dL_add_74 rfl rfl rfl (by decide) rfl ?_
      refine zF_goto 65 dL_add_77 rfl ?_
      exact zF_locs (ls' := [(3, zI (((x + 1) : Nat) : Int)), (0, zR (B0 0)), (1, zR wh), (2, zI ((b : Nat) : Int))]) ⟨zlI rfl (by first | rfl | omega | (push_cast; omega) | exact congrArg (_ + ·) (zbT (by assumption)) | exact congrArg (_ + ·) (zbF (by assumption)) | exact congrArg (_ + ·) (zbT (by omega)) | exact congrArg (_ + ·) (zbF (by omega)) | exact congrArg (_ + ·) (if_pos (by omega)).symm | exact congrArg (_ + ·) (if_neg (by omega)).symm | exact (if_pos (by omega)).symm | exact (if_neg (by omega)).symm | exact zsub_s (if_pos (by omega)).symm | exact zsub_s0 (if_neg (by omega)).symm | exact zadd0 (if_neg (by omega)).symm | exact zadd0 (zbF (by omega)) | exact (Int.sub_zero _).symm), rfl, rfl, rfl, trivial⟩ (ih65 (x + 1) _ (by omega) (⟨by omega, zFr_si (Or.inl rfl) f3, by rw [zia_si, if_neg (by omega)]; exact w5, by rw [zia_si, if_neg (fun z => hw0 0 z.1)]; exact e3, fun j => by rw [zia_si, if_neg (fun z => hw0 10 z.1)]; exact b3 j, fun k hk => by
        rw [zia_si]
        by_cases c : k = x
        · rw [if_pos ⟨rfl, by omega⟩]
        · rw [if_neg (by omega)]; exact z3 k (by omega)⟩))
  · exact zF_return dL_add_42 rfl (⟨rfl, zFr_si (Or.inl rfl) (zFr_si (Or.inl rfl) zFr.rf), hT.1, hT.2.1, ⟨hlb, by omega⟩, by rw [zsi_same, hln]; rfl, by rw [zia_si, if_neg (fun z => hw0 0 z.1), zia_si, if_neg (fun z => hw0 0 z.1), hln, show (l.length + 1) / 20 = l.length / 20 by omega]; exact hT.2.2.2.2.1, fun j hj => by
      rw [hln, show (l.length + 1) / 20 = l.length / 20 by omega] at hj
      rw [zia_si, if_neg (fun z => hw0 10 z.1), zia_si, if_neg (fun z => hw0 10 z.1), tg_app, if_neg (by omega)]
      exact hT.2.2.2.2.2.1 j hj, fun k hk => by
      rw [hln, show (l.length + 1) / 20 = l.length / 20 by omega]
      exact ad_row hT (by omega) rfl k hk⟩)
end ZT3

/-! the strings: length, charAt -/
section ZST
variable {G : zG} {M : zMeth} {d pc : Nat} {ls : List (Nat × zV)} {σ : zMem} {Q : zRes → zMem → Prop}
theorem zF_nreturn {z : Int} {ty : FieldType} (hd : decode M.2.1 pc = .ok (.ireturn, 1)) (hr : M.2.2.2 = some ty) (hn : narrow ty (.int (Int32.ofInt z)) = .int (Int32.ofInt z)) (hQ : Q (.inl (some (zI z))) σ) : zF G M d pc ls [zI z] σ Q := by
  refine ⟨_, _, hQ, zUp.rf σ, ?_⟩
  intro ρ p e R s m args below meth c hC H locs cells slots lsA hS h1 h2
  refine W.widen (by omega : cells ≤ R.cells) (by omega : slots ≤ R.slots) (vx_ret ?_)
  exact W.zret hC.1 hC.2.1 (hC.2.2.2.2.2.1.trans hr) hn (fun t ht _ => ⟨⟨_, rfl, ρ, zAg.rf _ _ _, rfl, by rw [ht]; exact hS.1⟩, hS.2.1.F ht⟩) hS.2.1.2.2 hd hC.2.2.2.2.2.2.1
theorem zF_nretP {z v : Int} {ty : FieldType} (hd : decode M.2.1 pc = .ok (.ireturn, 1)) (hr : M.2.2.2 = some ty) (hn : narrow ty (.int (Int32.ofInt z)) = .int (Int32.ofInt z)) (e : z = v) : zF G M d pc ls [zI z] σ (fun r σ1 => σ1 = σ ∧ r = .inl (some (zI v))) := zF_nreturn hd hr hn ⟨rfl, by rw [e]⟩
theorem znar_cf : ∀ a : Fin 256, narrow .char (.int (Int32.ofInt ((a : Nat) : Int))) = .int (Int32.ofInt ((a : Nat) : Int)) := by decide +kernel
theorem znar_c {a : Int} (h0 : 0 ≤ a) (h1 : a < 256) : narrow .char (.int (Int32.ofInt a)) = .int (Int32.ofInt a) := by
  have e1 := znar_cf ⟨a.toNat, by omega⟩
  dsimp only at e1
  rw [show ((a.toNat : Nat) : Int) = a by omega] at e1
  exact e1
theorem znar_b0 : narrow .byte (.int (Int32.ofInt 0)) = .int (Int32.ofInt 0) := by decide +kernel
theorem zt_J0_coder {i : Nat} (hG : zOS G) (hi : i < 59) : zP1 G mJ0_coder_7d493 d [zR (zbg + i)] σ 0 := by
  refine zE_of rfl (by simp [zcat]) (Nat.le_of_ble_eq_true rfl) ?_
  show zF G mJ0_coder_7d493 d 0 [(0, zR (zbg + i))] [] σ _
  refine zF_getsI 3 dJ0_coder_7d493_0 rfl fJ0_38 hG.2.1 ?_
  refine zF_if_eq 13 6 dJ0_coder_7d493_3 rfl rfl (by first | decide | assumption | (constructor <;> omega)) (fun c1 => ?_) (fun c1 => ?_)
  · exact absurd c1 (by decide)
  · refine zF_aload_n 7 dJ0_coder_7d493_6 rfl rfl ?_
    refine zF_getOI 10 dJ0_coder_7d493_7 rfl fJ0_15 (hG.1 i hi).2.1 ?_
    refine zF_goto 14 dJ0_coder_7d493_10 rfl ?_
    exact zF_nretP dJ0_coder_7d493_14 rfl (znar_b0) (by first | rfl | omega)
theorem zt_J0_isLatin1 {i : Nat} (hG : zOS G) (hi : i < 59) : zP1 G mJ0_isLatin1_aae02 d [zR (zbg + i)] σ 1 := by
  refine zE_of rfl (by simp [zcat]) (Nat.le_of_ble_eq_true rfl) ?_
  show zF G mJ0_isLatin1_aae02 d 0 [(0, zR (zbg + i))] [] σ _
  refine zF_getsI 3 dJ0_isLatin1_aae02_0 rfl fJ0_38 hG.2.1 ?_
  refine zF_if_eq 17 6 dJ0_isLatin1_aae02_3 rfl rfl (by first | decide | assumption | (constructor <;> omega)) (fun c1 => ?_) (fun c1 => ?_)
  · exact absurd c1 (by decide)
  · refine zF_aload_n 7 dJ0_isLatin1_aae02_6 rfl rfl ?_
    refine zF_getOI 10 dJ0_isLatin1_aae02_7 rfl fJ0_15 (hG.1 i hi).2.1 ?_
    refine zF_if_ne 17 13 dJ0_isLatin1_aae02_10 rfl rfl (by first | decide | assumption | (constructor <;> omega)) (fun c2 => ?_) (fun c2 => ?_)
    · exact absurd c2 (by decide)
    · refine zF_iconst 14 dJ0_isLatin1_aae02_13 rfl ?_
      refine zF_goto 18 dJ0_isLatin1_aae02_14 rfl ?_
      exact zF_zretP dJ0_isLatin1_aae02_18 rfl (by decide) (by first | rfl | omega)
theorem zt_J0_length {i : Nat} (hG : zOS G) (hi : i < 59) : zP1 G mJ0_length_8abf5 (d + 1) [zR (zbg + i)] σ ((zsl i : Nat) : Int) := by
  refine zE_of rfl (by simp [zcat]) (Nat.le_of_ble_eq_true rfl) ?_
  show zF G mJ0_length_8abf5 (d + 1) 0 [(0, zR (zbg + i))] [] σ _
  have hl := zsl_b i hi
  refine zF_aload_n 1 dJ0_length_8abf5_0 rfl rfl ?_
  refine zF_getOR 4 dJ0_length_8abf5_1 rfl fJ0_9 (hG.1 i hi).2.2.1 ?_
  refine zF_alenO 5 dJ0_length_8abf5_4 rfl (hG.1 i hi).2.2.2 ?_
  refine zF_aload_n 6 dJ0_length_8abf5_5 rfl rfl ?_
  refine zF_callOi 9 (d2 := d) (as := []) dJ0_length_8abf5_6 rfl kJ0_335 iJ0_coder_7d493 (hG.1 i hi).1 eJ0_coder_7d493 (Nat.le_refl _) rfl rfl (Nat.le_of_ble_eq_true rfl) (zt_J0_coder hG hi) ?_
  refine zF_ishr 10 dJ0_length_8abf5_9 rfl ?_
  refine zF_I (b := ((zsl i : Nat) : Int)) (zshr0 (by first | decide | assumption | (constructor <;> omega))) ?_
  exact zF_iretP dJ0_length_8abf5_10 rfl (by first | rfl | omega)
theorem zt_J3_checkIndex {a b : Int} {v : Value} (hv : v.category = 1) (h0 : 0 ≤ a) (h1 : a < b) (h2 : b < 1000000) : zP1 G mJ3_checkIndex_8e157 d [zI a, zI b, zX v] σ a := by
  refine zE_of rfl (by simp [zcat, hv]) (by show zlen _ ≤ 3; simp [zlen, zcat, hv]) ?_
  show zF G mJ3_checkIndex_8e157 d 0 [(0, zI a), (1, zI b), (2, zX v)] [] σ _
  refine zF_iload_n 1 dJ3_checkIndex_8e157_0 rfl rfl ?_
  refine zF_if_lt 9 4 dJ3_checkIndex_8e157_1 rfl rfl (by first | decide | assumption | (constructor <;> omega)) (fun c1 => ?_) (fun c1 => ?_)
  · exact absurd c1 (by omega)
  · refine zF_iload_n 5 dJ3_checkIndex_8e157_4 rfl rfl ?_
    refine zF_iload_n 6 dJ3_checkIndex_8e157_5 rfl rfl ?_
    refine zF_icmp_lt 16 9 dJ3_checkIndex_8e157_6 rfl rfl (by first | decide | assumption | (constructor <;> omega)) (by first | decide | assumption | (constructor <;> omega)) (fun c2 => ?_) (fun c2 => ?_)
    · refine zF_iload_n 17 dJ3_checkIndex_8e157_16 rfl rfl ?_
      exact zF_iretP dJ3_checkIndex_8e157_17 rfl (by first | rfl | omega)
    · exact absurd c2 (by omega)
theorem zSIO (hG : zOS G) : ∃ v : Value, v.category = 1 ∧ va_Z "jdk/internal/util/Preconditions" "SIOOBE_FORMATTER" "Ljava/util/function/BiFunction;" v (zA G) (zSt0 G) (zSt0 G).heap := by
  rcases hG.2.2 with h | ⟨t, h⟩
  · exact ⟨_, rfl, h⟩
  · exact ⟨_, rfl, h⟩
theorem zt_J0_checkIndex {a b : Int} (hG : zOS G) (h0 : 0 ≤ a) (h1 : a < b) (h2 : b < 1000000) : zE G mJ0_checkIndex_df160 (d + 1) [zI a, zI b] σ (fun ro σ1 => ro = .inl none ∧ σ1 = σ) := by
  refine zE_of rfl (by simp [zcat]) (Nat.le_of_ble_eq_true rfl) ?_
  show zF G mJ0_checkIndex_df160 (d + 1) 0 [(0, zI a), (1, zI b)] [] σ _
  obtain ⟨vf, hc, hvf⟩ := zSIO hG
  refine zF_iload_n 1 dJ0_checkIndex_df160_0 rfl rfl ?_
  refine zF_iload_n 2 dJ0_checkIndex_df160_1 rfl rfl ?_
  refine zF_getsX 5 dJ0_checkIndex_df160_2 rfl fJ0_1053 hvf ?_
  refine zF_callSi 8 (d2 := d) (as := [zI a, zI b, zX vf]) dJ0_checkIndex_df160_5 rfl kJ0_1059 sJ3_checkIndex_8e157 (Nat.le_refl _) rfl rfl (Nat.le_of_ble_eq_true rfl) (zt_J3_checkIndex hc h0 h1 h2) ?_
  refine zF_pop 9 dJ0_checkIndex_df160_8 rfl rfl ?_
  exact zF_return dJ0_checkIndex_df160_9 rfl (⟨rfl, rfl⟩)
theorem zt_J1_charAt {i k : Nat} (hG : zOS G) (hi : i < 59) (hk : k < zsl i) : zP1 G mJ1_charAt_3b067 (d + 2) [zR (zbg + (100 + i)), zI ((k : Nat) : Int)] σ (zsc i k) := by
  refine zE_of rfl (by simp [zcat]) (Nat.le_of_ble_eq_true rfl) ?_
  show zF G mJ1_charAt_3b067 (d + 2) 0 [(0, zR (zbg + (100 + i))), (1, zI ((k : Nat) : Int))] [] σ _
  have hl := zsl_b i hi
  have hb := zsc_b i hi k hk
  refine zF_iload_n 1 dJ1_charAt_3b067_0 rfl rfl ?_
  refine zF_aload_n 2 dJ1_charAt_3b067_1 rfl rfl ?_
  refine zF_alenO 3 dJ1_charAt_3b067_2 rfl (hG.1 i hi).2.2.2 ?_
  refine zF_callS 6 (d2 := (d + 1)) (as := [zI ((k : Nat) : Int), zI ((zsl i : Nat) : Int)]) dJ1_charAt_3b067_3 rfl kJ1_9 sJ0_checkIndex_df160 (Nat.le_refl _) rfl rfl (Nat.le_of_ble_eq_true rfl) (zE.mono (zt_J0_checkIndex hG (by omega) (by omega) (by omega)) fun ro σx1 hh1 => ?_)
  obtain ⟨er1, es1⟩ := hh1
  subst er1
  subst es1
  refine ⟨rfl, ?_⟩
  refine zF_aload_n 7 dJ1_charAt_3b067_6 rfl rfl ?_
  refine zF_iload_n 8 dJ1_charAt_3b067_7 rfl rfl ?_
  refine zF_baloadO 9 dJ1_charAt_3b067_8 rfl (g := zsc i) (hG.1 i hi).2.2.2 (by omega) (by omega) (by omega) ?_
  refine zF_sipush 12 dJ1_charAt_3b067_9 rfl (by decide) ?_
  refine zF_iand 13 dJ1_charAt_3b067_12 rfl ?_
  refine zF_I (b := (zsc i k)) (zand255 hb.1 hb.2) ?_
  refine zF_i2c 14 dJ1_charAt_3b067_13 rfl (by omega) (by omega) ?_
  exact zF_nretP dJ1_charAt_3b067_14 rfl (znar_c (by omega) (by omega)) (by first | rfl | omega)
theorem zt_J0_charAt {i k : Nat} (hG : zOS G) (hi : i < 59) (hk : k < zsl i) : zP1 G mJ0_charAt_5068e (d + 3) [zR (zbg + i), zI ((k : Nat) : Int)] σ (zsc i k) := by
  refine zE_of rfl (by simp [zcat]) (Nat.le_of_ble_eq_true rfl) ?_
  show zF G mJ0_charAt_5068e (d + 3) 0 [(0, zR (zbg + i)), (1, zI ((k : Nat) : Int))] [] σ _
  have hl := zsl_b i hi
  have hb := zsc_b i hi k hk
  refine zF_aload_n 1 dJ0_charAt_5068e_0 rfl rfl ?_
  refine zF_callOi 4 (d2 := (d + 2)) (as := []) dJ0_charAt_5068e_1 rfl kJ0_492 iJ0_isLatin1_aae02 (hG.1 i hi).1 eJ0_isLatin1_aae02 (Nat.le_refl _) rfl rfl (Nat.le_of_ble_eq_true rfl) (zt_J0_isLatin1 hG hi) ?_
  refine zF_if_eq 16 7 dJ0_charAt_5068e_4 rfl rfl (by first | decide | assumption | (constructor <;> omega)) (fun c1 => ?_) (fun c1 => ?_)
  · exact absurd c1 (by omega)
  · refine zF_aload_n 8 dJ0_charAt_5068e_7 rfl rfl ?_
    refine zF_getOR 11 dJ0_charAt_5068e_8 rfl fJ0_9 (hG.1 i hi).2.2.1 ?_
    refine zF_iload_n 12 dJ0_charAt_5068e_11 rfl rfl ?_
    refine zF_callSi 15 (d2 := (d + 2)) (as := [zR (zbg + (100 + i)), zI ((k : Nat) : Int)]) dJ0_charAt_5068e_12 rfl kJ0_495 sJ1_charAt_3b067 (Nat.le_refl _) rfl rfl (Nat.le_of_ble_eq_true rfl) (zt_J1_charAt hG hi hk) ?_
    exact zF_nretP dJ0_charAt_5068e_15 rfl (znar_c (by omega) (by omega)) (by first | rfl | omega)
end ZST

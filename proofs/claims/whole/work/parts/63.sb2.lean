/-! StringBuilder: append, setLength, length, charAt -/
section ZSD
variable {G : zG} {M : zMeth} {d pc : Nat} {ls : List (Nat × zV)} {st : List zV} {σ : zMem} {Q : zRes → zMem → Prop} {h vv cap : Nat} {l : List Int}
/-- the digits of Integer -/
def zOD (G : zG) : Prop := va_Z "java/lang/Integer" "DigitOnes" "[B" (.ref (zAd G 400)) (zA G) (zSt0 G) (zSt0 G).heap ∧ va_T .byte (zAd G 400) 100 (fun j => .int (Int32.ofInt (48 + ((j % 10 : Nat) : Int)))) (zA G) (zSt0 G) (zSt0 G).heap
theorem fJ6_83 : Cond.fieldLink RJ6 83 "java/lang/Integer" "DigitOnes" "[B" ∈ lw_all := zi7 17 rfl rfl
theorem zt_J6_stringSize {v : Int} (v0 : 0 ≤ v) (v1 : v < 10) : zP1 G mJ6_stringSize_0f7a4 d [zI v] σ 1 := by
  refine zE_of rfl (by simp [zcat]) (Nat.le_of_ble_eq_true rfl) ?_
  show zF G mJ6_stringSize_0f7a4 d 0 [(0, zI v)] [] σ _
  refine zF_iconst 1 dJ6_stringSize_0f7a4_0 rfl ?_
  refine zF_istore_n 2 (ls' := [(1, zI 1), (0, zI v)]) dJ6_stringSize_0f7a4_1 rfl (by decide) rfl ?_
  refine zF_iload_n 3 dJ6_stringSize_0f7a4_2 rfl rfl ?_
  refine zF_if_lt 11 6 dJ6_stringSize_0f7a4_3 rfl rfl (by first | decide | assumption | (constructor <;> omega)) (fun c1 => ?_) (fun c1 => ?_)
  · exact absurd c1 (by omega)
  · refine zF_iconst 7 dJ6_stringSize_0f7a4_6 rfl ?_
    refine zF_istore_n 8 (ls' := [(1, zI 0), (0, zI v)]) dJ6_stringSize_0f7a4_7 rfl (by decide) rfl ?_
    refine zF_iload_n 9 dJ6_stringSize_0f7a4_8 rfl rfl ?_
    refine zF_ineg 10 dJ6_stringSize_0f7a4_9 rfl ?_
    refine zF_istore_n 11 (ls' := [(0, zI (-v)), (1, zI 0)]) dJ6_stringSize_0f7a4_10 rfl (by decide) rfl ?_
    refine zF_bipush 13 dJ6_stringSize_0f7a4_11 rfl (by decide) ?_
    refine zF_istore_n 14 (ls' := [(2, zI (-10)), (0, zI (-v)), (1, zI 0)]) dJ6_stringSize_0f7a4_13 rfl (by decide) rfl ?_
    refine zF_iconst 15 dJ6_stringSize_0f7a4_14 rfl ?_
    refine zF_istore_n 16 (ls' := [(3, zI 1), (2, zI (-10)), (0, zI (-v)), (1, zI 0)]) dJ6_stringSize_0f7a4_15 rfl (by decide) rfl ?_
    refine zF_iload_n 17 dJ6_stringSize_0f7a4_16 rfl rfl ?_
    refine zF_bipush 19 dJ6_stringSize_0f7a4_17 rfl (by decide) ?_
    refine zF_icmp_ge 42 22 dJ6_stringSize_0f7a4_19 rfl rfl (by first | decide | assumption | (constructor <;> omega)) (by first | decide | assumption | (constructor <;> omega)) (fun c2 => ?_) (fun c2 => ?_)
    · exact absurd c2 (by decide)
    · refine zF_iload_n 23 dJ6_stringSize_0f7a4_22 rfl rfl ?_
      refine zF_iload_n 24 dJ6_stringSize_0f7a4_23 rfl rfl ?_
      refine zF_icmp_le 31 27 dJ6_stringSize_0f7a4_24 rfl rfl (by first | decide | assumption | (constructor <;> omega)) (by first | decide | assumption | (constructor <;> omega)) (fun c3 => ?_) (fun c3 => ?_)
      · exact absurd c3 (by omega)
      · refine zF_iload_n 28 dJ6_stringSize_0f7a4_27 rfl rfl ?_
        refine zF_iload_n 29 dJ6_stringSize_0f7a4_28 rfl rfl ?_
        refine zF_iadd 30 dJ6_stringSize_0f7a4_29 rfl ?_
        exact zF_iretP dJ6_stringSize_0f7a4_30 rfl (by first | rfl | omega)
theorem zt_J6_getChars {v q : Int} {b n : Nat} (hD : zOD G) (hk : zkd σ b = (2, n)) (hb : b < zn σ) (v0 : 0 ≤ v) (v1 : v < 10) (q0 : 1 ≤ q) (q1 : q ≤ n) : zE G mJ6_getChars_ba4f3 d [zI v, zI q, zR b] σ (fun ro σ1 => ro = .inl (some (zI (q - 1))) ∧ σ1 = zsi σ b (q - 1) (48 + v)) := by
  refine zE_of rfl (by simp [zcat]) (Nat.le_of_ble_eq_true rfl) ?_
  show zF G mJ6_getChars_ba4f3 d 0 [(0, zI v), (1, zI q), (2, zR b)] [] σ _
  refine zF_iload_n 1 dJ6_getChars_ba4f3_0 rfl rfl ?_
  refine zF_istore 3 (ls' := [(5, zI q), (0, zI v), (1, zI q), (2, zR b)]) dJ6_getChars_ba4f3_1 rfl (by decide) rfl ?_
  refine zF_iload_n 4 dJ6_getChars_ba4f3_3 rfl rfl ?_
  refine zF_if_ge 11 7 dJ6_getChars_ba4f3_4 rfl rfl (by first | decide | assumption | (constructor <;> omega)) (fun c1 => ?_) (fun c1 => ?_)
  · refine zF_iconst 12 dJ6_getChars_ba4f3_11 rfl ?_
    refine zF_istore 14 (ls' := [(6, zI 0), (5, zI q), (0, zI v), (1, zI q), (2, zR b)]) dJ6_getChars_ba4f3_12 rfl (by decide) rfl ?_
    refine zF_iload 16 dJ6_getChars_ba4f3_14 rfl rfl ?_
    refine zF_if_ne 22 19 dJ6_getChars_ba4f3_16 rfl rfl (by first | decide | assumption | (constructor <;> omega)) (fun c2 => ?_) (fun c2 => ?_)
    · exact absurd c2 (by decide)
    · refine zF_iload_n 20 dJ6_getChars_ba4f3_19 rfl rfl ?_
      refine zF_ineg 21 dJ6_getChars_ba4f3_20 rfl ?_
      refine zF_istore_n 22 (ls' := [(0, zI (-v)), (6, zI 0), (5, zI q), (1, zI q), (2, zR b)]) dJ6_getChars_ba4f3_21 rfl (by decide) rfl ?_
      refine zF_iload_n 23 dJ6_getChars_ba4f3_22 rfl rfl ?_
      refine zF_bipush 25 dJ6_getChars_ba4f3_23 rfl (by decide) ?_
      refine zF_icmp_gt 72 28 dJ6_getChars_ba4f3_25 rfl rfl (by first | decide | assumption | (constructor <;> omega)) (by first | decide | assumption | (constructor <;> omega)) (fun c3 => ?_) (fun c3 => ?_)
      · refine zF_aload_n 73 dJ6_getChars_ba4f3_72 rfl rfl ?_
        refine zF_iinc 76 (ls' := [(5, zI (q - 1)), (0, zI (-v)), (6, zI 0), (1, zI q), (2, zR b)]) dJ6_getChars_ba4f3_73 rfl rfl rfl (by decide) rfl ?_
        refine zF_iload 78 dJ6_getChars_ba4f3_76 rfl rfl ?_
        refine zF_getsR 81 dJ6_getChars_ba4f3_78 rfl fJ6_83 hD.1 ?_
        refine zF_iload_n 82 dJ6_getChars_ba4f3_81 rfl rfl ?_
        refine zF_ineg 83 dJ6_getChars_ba4f3_82 rfl ?_
        refine zF_baloadO 84 dJ6_getChars_ba4f3_83 rfl (g := fun j => 48 + ((j % 10 : Nat) : Int)) hD.2 (by omega) (by omega) (by omega) ?_
        refine zF_bastore 85 dJ6_getChars_ba4f3_84 rfl hk hb (by omega) (by omega) (by omega) ?_
        refine zF_iload_n 86 dJ6_getChars_ba4f3_85 rfl rfl ?_
        refine zF_bipush 88 dJ6_getChars_ba4f3_86 rfl (by decide) ?_
        refine zF_icmp_ge 104 91 dJ6_getChars_ba4f3_88 rfl rfl (by first | decide | assumption | (constructor <;> omega)) (by first | decide | assumption | (constructor <;> omega)) (fun c4 => ?_) (fun c4 => ?_)
        · refine zF_iload 106 dJ6_getChars_ba4f3_104 rfl rfl ?_
          refine zF_if_eq 118 109 dJ6_getChars_ba4f3_106 rfl rfl (by first | decide | assumption | (constructor <;> omega)) (fun c5 => ?_) (fun c5 => ?_)
          · refine zF_iload 120 dJ6_getChars_ba4f3_118 rfl rfl ?_
            exact zF_ireturn dJ6_getChars_ba4f3_120 rfl (⟨rfl, by rw [show (48 : Int) + ((((- -v).toNat % 10 : Nat)) : Int) = 48 + v by omega]⟩)
          · exact absurd c5 (by decide)
        · exact absurd c4 (by omega)
      · exact absurd c3 (by omega)
  · exact absurd c1 (by omega)
theorem zt_J5_appendC {c : Int} (hG : zOS G) (hI : sbI σ h vv cap l) (hz : zn σ + 5 < zbg) (h0 : 0 ≤ c) (h1 : c < 128) (hl : l.length + 1 ≤ 34) : zE G mJ5_append_3fe6f (d + 4) [zR h, zI c] σ (fun ro σ1 => ro = .inl (some (zR h)) ∧ ∃ vv1 cap1, sbI σ1 h vv1 cap1 (l ++ [c]) ∧ sbS σ σ1 h vv vv1 cap cap1) := by
  refine zE_of rfl (by simp [zcat]) (Nat.le_of_ble_eq_true rfl) ?_
  show zF G mJ5_append_3fe6f (d + 4) 0 [(0, zR h), (1, zI c)] [] σ _
  have hcp := hI.cap
  have hln := hI.len
  refine zF_aload_n 1 dJ5_append_3fe6f_0 rfl rfl ?_
  refine zF_aload_n 2 dJ5_append_3fe6f_1 rfl rfl ?_
  refine zF_getI 5 dJ5_append_3fe6f_2 rfl gJ5_79 (by decide) (by decide) hI.kd hI.lt hI.cnt ?_
  refine zF_iconst 6 dJ5_append_3fe6f_5 rfl ?_
  refine zF_iadd 7 dJ5_append_3fe6f_6 rfl ?_
  refine zF_callVnn 10 (d2 := (d + 3)) (as := [zI ((l.length : Int) + 1)]) dJ5_append_3fe6f_7 rfl kJ5_100 iJ5_ensureCapacityInternal_d00df (ci := 13) rfl eJ5_ensureCapacityInternal_d00df (Nat.le_refl _) hI.kd hI.lt rfl rfl (Nat.le_of_ble_eq_true rfl) (by exact (⟨zwR hI.lt, trivial, trivial⟩ : _ ∧ _ ∧ True)) (by exact trivial) (zE.mono (zt_J5_ensure hG hI (by omega) (by omega) hz) fun ro σa1 hh1 => ?_)
  obtain ⟨er1, vv1, cap1, hI1, hS1, hq1⟩ := hh1
  subst er1
  have hcp1 := hI1.cap
  have hln1 := hI1.len
  show zF G mJ5_append_3fe6f (d + 4) 10 [(0, zR h), (1, zI c)] [] σa1 _
  refine zF_aload_n 11 dJ5_append_3fe6f_10 rfl rfl ?_
  refine zF_callVi 14 (d2 := (d + 3)) (as := []) dJ5_append_3fe6f_11 rfl kJ5_83 iJ5_isLatin1_aae02 (ci := 13) rfl eJ5_isLatin1_aae02 (Nat.le_refl _) hI1.kd hI1.lt rfl rfl (Nat.le_of_ble_eq_true rfl) (zt_J5_isLatin1 hG hI1) ?_
  refine zF_if_eq 45 17 dJ5_append_3fe6f_14 rfl rfl (by first | decide | assumption | (constructor <;> omega)) (fun c1 => ?_) (fun c1 => ?_)
  · exact absurd c1 (by omega)
  · refine zF_iload_n 18 dJ5_append_3fe6f_17 rfl rfl ?_
    refine zF_callSi 21 (d2 := (d + 3)) (as := [zI c]) dJ5_append_3fe6f_18 rfl kJ5_191 sJ1_canEncode_fc78d (Nat.le_refl _) rfl rfl (Nat.le_of_ble_eq_true rfl) (zt_J1_canEncode h0 h1) ?_
    refine zF_if_eq 45 24 dJ5_append_3fe6f_21 rfl rfl (by first | decide | assumption | (constructor <;> omega)) (fun c2 => ?_) (fun c2 => ?_)
    · exact absurd c2 (by omega)
    · refine zF_aload_n 25 dJ5_append_3fe6f_24 rfl rfl ?_
      refine zF_getR 28 dJ5_append_3fe6f_25 rfl gJ5_15 hI1.kd hI1.lt hI1.val ?_
      refine zF_aload_n 29 dJ5_append_3fe6f_28 rfl rfl ?_
      refine zF_dup 30 dJ5_append_3fe6f_29 rfl rfl ?_
      refine zF_getI 33 dJ5_append_3fe6f_30 rfl gJ5_79 (by decide) (by decide) hI1.kd hI1.lt hI1.cnt ?_
      refine zF_dup_x1 34 dJ5_append_3fe6f_33 rfl rfl rfl ?_
      refine zF_iconst 35 dJ5_append_3fe6f_34 rfl ?_
      refine zF_iadd 36 dJ5_append_3fe6f_35 rfl ?_
      refine zF_putI 39 dJ5_append_3fe6f_36 rfl pJ5_append_3fe6f_79 (Or.inl rfl) hI1.kd hI1.lt ?_
      refine zF_iload_n 40 dJ5_append_3fe6f_39 rfl rfl ?_
      refine zF_i2by 41 dJ5_append_3fe6f_40 rfl (by first | decide | assumption | (constructor <;> omega)) ?_
      refine zF_I (b := c) (zby_s (by omega)) ?_
      refine zF_bastore 42 dJ5_append_3fe6f_41 rfl hI1.vkd hI1.vlt (by omega) (by omega) (by omega) ?_
      refine zF_goto 75 dJ5_append_3fe6f_42 rfl ?_
      refine zF_aload_n 76 dJ5_append_3fe6f_75 rfl rfl ?_
      exact zF_areturn dJ5_append_3fe6f_76 rfl ((by
    have q := sb_put hI1 rfl (by omega) h0 h1
    exact ⟨rfl, vv1, cap1, q.1, hS1.tr q.2⟩))
theorem zt_J5_appendI {v : Int} (hG : zOS G) (hI : sbI σ h vv cap l) (hz : zn σ + 5 < zbg) (hD : zOD G) (v0 : 0 ≤ v) (v1 : v < 10) (hl : l.length + 1 ≤ 34) : zE G mJ5_append_c97b9 (d + 4) [zR h, zI v] σ (fun ro σ1 => ro = .inl (some (zR h)) ∧ ∃ vv1 cap1, sbI σ1 h vv1 cap1 (l ++ [48 + v]) ∧ sbS σ σ1 h vv vv1 cap cap1) := by
  refine zE_of rfl (by simp [zcat]) (Nat.le_of_ble_eq_true rfl) ?_
  show zF G mJ5_append_c97b9 (d + 4) 0 [(0, zR h), (1, zI v)] [] σ _
  have hcp := hI.cap
  have hln := hI.len
  refine zF_aload_n 1 dJ5_append_c97b9_0 rfl rfl ?_
  refine zF_getI 4 dJ5_append_c97b9_1 rfl gJ5_79 (by decide) (by decide) hI.kd hI.lt hI.cnt ?_
  refine zF_istore_n 5 (ls' := [(2, zI (l.length : Int)), (0, zR h), (1, zI v)]) dJ5_append_c97b9_4 rfl (by decide) rfl ?_
  refine zF_iload_n 6 dJ5_append_c97b9_5 rfl rfl ?_
  refine zF_iload_n 7 dJ5_append_c97b9_6 rfl rfl ?_
  refine zF_callSi 10 (d2 := (d + 3)) (as := [zI v]) dJ5_append_c97b9_7 rfl kJ5_245 sJ6_stringSize_0f7a4 (Nat.le_refl _) rfl rfl (Nat.le_of_ble_eq_true rfl) (zt_J6_stringSize v0 v1) ?_
  refine zF_iadd 11 dJ5_append_c97b9_10 rfl ?_
  refine zF_istore_n 12 (ls' := [(3, zI ((l.length : Int) + 1)), (2, zI (l.length : Int)), (0, zR h), (1, zI v)]) dJ5_append_c97b9_11 rfl (by decide) rfl ?_
  refine zF_aload_n 13 dJ5_append_c97b9_12 rfl rfl ?_
  refine zF_iload_n 14 dJ5_append_c97b9_13 rfl rfl ?_
  refine zF_callVnn 17 (d2 := (d + 3)) (as := [zI ((l.length : Int) + 1)]) dJ5_append_c97b9_14 rfl kJ5_100 iJ5_ensureCapacityInternal_d00df (ci := 13) rfl eJ5_ensureCapacityInternal_d00df (Nat.le_refl _) hI.kd hI.lt rfl rfl (Nat.le_of_ble_eq_true rfl) (by exact (⟨trivial, trivial, zwR hI.lt, trivial, trivial⟩ : _ ∧ _ ∧ _ ∧ _ ∧ True)) (by exact trivial) (zE.mono (zt_J5_ensure hG hI (by omega) (by omega) hz) fun ro σa1 hh1 => ?_)
  obtain ⟨er1, vv1, cap1, hI1, hS1, hq1⟩ := hh1
  subst er1
  have hcp1 := hI1.cap
  have hln1 := hI1.len
  show zF G mJ5_append_c97b9 (d + 4) 17 [(3, zI ((l.length : Int) + 1)), (2, zI (l.length : Int)), (0, zR h), (1, zI v)] [] σa1 _
  refine zF_aload_n 18 dJ5_append_c97b9_17 rfl rfl ?_
  refine zF_callVi 21 (d2 := (d + 3)) (as := []) dJ5_append_c97b9_18 rfl kJ5_83 iJ5_isLatin1_aae02 (ci := 13) rfl eJ5_isLatin1_aae02 (Nat.le_refl _) hI1.kd hI1.lt rfl rfl (Nat.le_of_ble_eq_true rfl) (zt_J5_isLatin1 hG hI1) ?_
  refine zF_if_eq 37 24 dJ5_append_c97b9_21 rfl rfl (by first | decide | assumption | (constructor <;> omega)) (fun c1 => ?_) (fun c1 => ?_)
  · exact absurd c1 (by omega)
  · refine zF_iload_n 25 dJ5_append_c97b9_24 rfl rfl ?_
    refine zF_iload_n 26 dJ5_append_c97b9_25 rfl rfl ?_
    refine zF_aload_n 27 dJ5_append_c97b9_26 rfl rfl ?_
    refine zF_getR 30 dJ5_append_c97b9_27 rfl gJ5_15 hI1.kd hI1.lt hI1.val ?_
    refine zF_callS 33 (d2 := (d + 3)) (as := [zI v, zI ((l.length : Int) + 1), zR vv1]) dJ5_append_c97b9_30 rfl kJ5_248 sJ6_getChars_ba4f3 (Nat.le_refl _) rfl rfl (Nat.le_of_ble_eq_true rfl) (zE.mono (zt_J6_getChars hD hI1.vkd hI1.vlt v0 v1 (by omega) (by omega)) fun ro σx2 hh2 => ?_)
    obtain ⟨er2, es2⟩ := hh2
    rw [show (l.length : Int) + 1 - 1 = (l.length : Int) by omega] at es2 er2
    subst er2
    subst es2
    refine ⟨rfl, ?_⟩
    refine zF_pop 34 dJ5_append_c97b9_33 rfl rfl ?_
    refine zF_goto 48 dJ5_append_c97b9_34 rfl ?_
    refine zF_aload_n 49 dJ5_append_c97b9_48 rfl rfl ?_
    refine zF_iload_n 50 dJ5_append_c97b9_49 rfl rfl ?_
    refine zF_putI 53 dJ5_append_c97b9_50 rfl pJ5_append_c97b9_79 (Or.inl rfl) hI1.kd hI1.lt ?_
    refine zF_aload_n 54 dJ5_append_c97b9_53 rfl rfl ?_
    exact zF_areturn dJ5_append_c97b9_54 rfl ((by
    have q := sb_put2 hI1 rfl (by omega) (show 0 ≤ 48 + v by omega) (show 48 + v < 128 by omega)
    exact ⟨rfl, vv1, cap1, q.1, hS1.tr q.2⟩))
theorem zt_J5_inflateIfNeededFor {i : Nat} (hG : zOS G) (hI : sbI σ h vv cap l) (hi : i < 59) : zE G mJ5_inflateIfNeededFor_a7421 (d + 1) [zR h, zR (zbg + i)] σ (fun ro σ1 => ro = .inl none ∧ σ1 = σ) := by
  refine zE_of rfl (by simp [zcat]) (Nat.le_of_ble_eq_true rfl) ?_
  show zF G mJ5_inflateIfNeededFor_a7421 (d + 1) 0 [(0, zR h), (1, zR (zbg + i))] [] σ _
  refine zF_getsI 3 dJ5_inflateIfNeededFor_a7421_0 rfl fJ5_18 hG.2.1 ?_
  refine zF_if_eq 21 6 dJ5_inflateIfNeededFor_a7421_3 rfl rfl (by first | decide | assumption | (constructor <;> omega)) (fun c1 => ?_) (fun c1 => ?_)
  · exact absurd c1 (by omega)
  · refine zF_aload_n 7 dJ5_inflateIfNeededFor_a7421_6 rfl rfl ?_
    refine zF_getI 10 dJ5_inflateIfNeededFor_a7421_7 rfl gJ5_22 (by decide) (by decide) hI.kd hI.lt hI.cod ?_
    refine zF_aload_n 11 dJ5_inflateIfNeededFor_a7421_10 rfl rfl ?_
    refine zF_callOi 14 (d2 := d) (as := []) dJ5_inflateIfNeededFor_a7421_11 rfl kJ5_40 iJ0_coder_7d493 (hG.1 i hi).1 eJ0_coder_7d493 (Nat.le_refl _) rfl rfl (Nat.le_of_ble_eq_true rfl) (zt_J0_coder hG hi) ?_
    refine zF_icmp_eq 21 17 dJ5_inflateIfNeededFor_a7421_14 rfl rfl (by first | decide | assumption | (constructor <;> omega)) (by first | decide | assumption | (constructor <;> omega)) (fun c2 => ?_) (fun c2 => ?_)
    · exact zF_return dJ5_inflateIfNeededFor_a7421_21 rfl (⟨rfl, rfl⟩)
    · exact absurd c2 (by omega)
theorem zt_J0_getBytes {i t n o : Nat} (hG : zOS G) (hi : i < 59) (hk : zkd σ t = (2, n)) (ht : t < zn σ) (h2 : o + zsl i ≤ n) (hn : n < 1000) : zE G mJ0_getBytes_840e7 (d + 1) [zR (zbg + i), zR t, zI (o : Int), zI 0] σ (fun ro σ1 => ro = .inl none ∧ σ1 = zcpo σ t o (zsl i) (fun j => zsc i j.toNat)) := by
  refine zE_of rfl (by simp [zcat]) (Nat.le_of_ble_eq_true rfl) ?_
  show zF G mJ0_getBytes_840e7 (d + 1) 0 [(0, zR (zbg + i)), (1, zR t), (2, zI (o : Int)), (3, zI 0)] [] σ _
  refine zF_aload_n 1 dJ0_getBytes_840e7_0 rfl rfl ?_
  refine zF_callOi 4 (d2 := d) (as := []) dJ0_getBytes_840e7_1 rfl kJ0_335 iJ0_coder_7d493 (hG.1 i hi).1 eJ0_coder_7d493 (Nat.le_refl _) rfl rfl (Nat.le_of_ble_eq_true rfl) (zt_J0_coder hG hi) ?_
  refine zF_iload_n 5 dJ0_getBytes_840e7_4 rfl rfl ?_
  refine zF_icmp_ne 28 8 dJ0_getBytes_840e7_5 rfl rfl (by first | decide | assumption | (constructor <;> omega)) (by first | decide | assumption | (constructor <;> omega)) (fun c1 => ?_) (fun c1 => ?_)
  · exact absurd c1 (by omega)
  · refine zF_aload_n 9 dJ0_getBytes_840e7_8 rfl rfl ?_
    refine zF_getOR 12 dJ0_getBytes_840e7_9 rfl fJ0_9 (hG.1 i hi).2.2.1 ?_
    refine zF_iconst 13 dJ0_getBytes_840e7_12 rfl ?_
    refine zF_aload_n 14 dJ0_getBytes_840e7_13 rfl rfl ?_
    refine zF_iload_n 15 dJ0_getBytes_840e7_14 rfl rfl ?_
    refine zF_iload_n 16 dJ0_getBytes_840e7_15 rfl rfl ?_
    refine zF_ishl 17 dJ0_getBytes_840e7_16 rfl ?_
    refine zF_I (b := (o : Int)) (zshl0 (by first | decide | assumption | (constructor <;> omega))) ?_
    refine zF_aload_n 18 dJ0_getBytes_840e7_17 rfl rfl ?_
    refine zF_getOR 21 dJ0_getBytes_840e7_18 rfl fJ0_9 (hG.1 i hi).2.2.1 ?_
    refine zF_alenO 22 dJ0_getBytes_840e7_21 rfl (hG.1 i hi).2.2.2 ?_
    refine zF_acopyO (i := 100 + i) (g := zsc i) 25 dJ0_getBytes_840e7_22 rfl (zi7 2 rfl rfl) (hG.1 i hi).2.2.2 hk ht h2 (by omega) (fun j hj => by have := zsc_b i hi j hj; omega) (by omega) (Nat.le_of_ble_eq_true rfl) ?_
    show zF G mJ0_getBytes_840e7 (d + 1) 25 [(0, zR (zbg + i)), (1, zR t), (2, zI (o : Int)), (3, zI 0)] [] (zcpo σ t o (zsl i) (fun j => zsc i j.toNat)) _
    refine zF_goto 43 dJ0_getBytes_840e7_25 rfl ?_
    exact zF_return dJ0_getBytes_840e7_43 rfl (⟨rfl, rfl⟩)
theorem zt_J5_putStringAt {i q : Nat} (hG : zOS G) (hI : sbI σ h vv cap l) (hi : i < 59) (hq : q + zsl i ≤ cap) : zE G mJ5_putStringAt_47b60 (d + 2) [zR h, zI (q : Int), zR (zbg + i)] σ (fun ro σ1 => ro = .inl none ∧ σ1 = zcpo σ vv q (zsl i) (fun j => zsc i j.toNat)) := by
  refine zE_of rfl (by simp [zcat]) (Nat.le_of_ble_eq_true rfl) ?_
  show zF G mJ5_putStringAt_47b60 (d + 2) 0 [(0, zR h), (1, zI (q : Int)), (2, zR (zbg + i))] [] σ _
  have hcp := hI.cap
  refine zF_aload_n 1 dJ5_putStringAt_47b60_0 rfl rfl ?_
  refine zF_aload_n 2 dJ5_putStringAt_47b60_1 rfl rfl ?_
  refine zF_callV 5 (d2 := (d + 1)) (as := [zR (zbg + i)]) dJ5_putStringAt_47b60_2 rfl kJ5_397 iJ5_inflateIfNeededFor_a7421 (ci := 13) rfl eJ5_inflateIfNeededFor_a7421 (Nat.le_refl _) hI.kd hI.lt rfl rfl (Nat.le_of_ble_eq_true rfl) (zE.mono (zt_J5_inflateIfNeededFor hG hI hi) fun ro σx1 hh1 => ?_)
  obtain ⟨er1, es1⟩ := hh1
  subst er1
  subst es1
  refine ⟨rfl, ?_⟩
  refine zF_aload_n 6 dJ5_putStringAt_47b60_5 rfl rfl ?_
  refine zF_aload_n 7 dJ5_putStringAt_47b60_6 rfl rfl ?_
  refine zF_getR 10 dJ5_putStringAt_47b60_7 rfl gJ5_15 hI.kd hI.lt hI.val ?_
  refine zF_iload_n 11 dJ5_putStringAt_47b60_10 rfl rfl ?_
  refine zF_aload_n 12 dJ5_putStringAt_47b60_11 rfl rfl ?_
  refine zF_getI 15 dJ5_putStringAt_47b60_12 rfl gJ5_22 (by decide) (by decide) hI.kd hI.lt hI.cod ?_
  refine zF_callO 18 (d2 := (d + 1)) (as := [zR vv, zI (q : Int), zI 0]) dJ5_putStringAt_47b60_15 rfl kJ5_399 iJ0_getBytes_840e7 (hG.1 i hi).1 eJ0_getBytes_840e7 (Nat.le_refl _) rfl rfl (Nat.le_of_ble_eq_true rfl) (zE.mono (zt_J0_getBytes (o := q) hG hi hI.vkd hI.vlt (by omega) (by omega)) fun ro σx2 hh2 => ?_)
  obtain ⟨er2, es2⟩ := hh2
  subst er2
  subst es2
  refine ⟨rfl, ?_⟩
  exact zF_return dJ5_putStringAt_47b60_18 rfl (⟨rfl, rfl⟩)
theorem zt_J5_appendS {i : Nat} (hG : zOS G) (hI : sbI σ h vv cap l) (hz : zn σ + 5 < zbg) (hi : i < 59) (hl : l.length + zsl i ≤ 34) : zE G mJ5_append_cf1ce (d + 4) [zR h, zR (zbg + i)] σ (fun ro σ1 => ro = .inl (some (zR h)) ∧ ∃ vv1 cap1, sbI σ1 h vv1 cap1 (l ++ zsbi i) ∧ sbS σ σ1 h vv vv1 cap cap1) := by
  refine zE_of rfl (by simp [zcat]) (Nat.le_of_ble_eq_true rfl) ?_
  show zF G mJ5_append_cf1ce (d + 4) 0 [(0, zR h), (1, zR (zbg + i))] [] σ _
  have hcp := hI.cap
  have hln := hI.len
  refine zF_aload_n 1 dJ5_append_cf1ce_0 rfl rfl ?_
  refine zF_ifnonnull 9 dJ5_append_cf1ce_1 rfl ?_
  refine zF_aload_n 10 dJ5_append_cf1ce_9 rfl rfl ?_
  refine zF_callOi 13 (d2 := (d + 3)) (as := []) dJ5_append_cf1ce_10 rfl kJ5_32 iJ0_length_8abf5 (hG.1 i hi).1 eJ0_length_8abf5 (Nat.le_refl _) rfl rfl (Nat.le_of_ble_eq_true rfl) (zt_J0_length hG hi) ?_
  refine zF_istore_n 14 (ls' := [(2, zI ((zsl i : Nat) : Int)), (0, zR h), (1, zR (zbg + i))]) dJ5_append_cf1ce_13 rfl (by decide) rfl ?_
  refine zF_aload_n 15 dJ5_append_cf1ce_14 rfl rfl ?_
  refine zF_aload_n 16 dJ5_append_cf1ce_15 rfl rfl ?_
  refine zF_getI 19 dJ5_append_cf1ce_16 rfl gJ5_79 (by decide) (by decide) hI.kd hI.lt hI.cnt ?_
  refine zF_iload_n 20 dJ5_append_cf1ce_19 rfl rfl ?_
  refine zF_iadd 21 dJ5_append_cf1ce_20 rfl ?_
  refine zF_callVnn 24 (d2 := (d + 3)) (as := [zI ((l.length : Int) + ((zsl i : Nat) : Int))]) dJ5_append_cf1ce_21 rfl kJ5_100 iJ5_ensureCapacityInternal_d00df (ci := 13) rfl eJ5_ensureCapacityInternal_d00df (Nat.le_refl _) hI.kd hI.lt rfl rfl (Nat.le_of_ble_eq_true rfl) (by exact (⟨trivial, zwR hI.lt, zwO, trivial⟩ : _ ∧ _ ∧ _ ∧ True)) (by exact trivial) (zE.mono (zt_J5_ensure hG hI (by omega) (by omega) hz) fun ro σa1 hh1 => ?_)
  obtain ⟨er1, vv1, cap1, hI1, hS1, hq1⟩ := hh1
  subst er1
  have hcp1 := hI1.cap
  have hln1 := hI1.len
  show zF G mJ5_append_cf1ce (d + 4) 24 [(2, zI ((zsl i : Nat) : Int)), (0, zR h), (1, zR (zbg + i))] [] σa1 _
  refine zF_aload_n 25 dJ5_append_cf1ce_24 rfl rfl ?_
  refine zF_aload_n 26 dJ5_append_cf1ce_25 rfl rfl ?_
  refine zF_getI 29 dJ5_append_cf1ce_26 rfl gJ5_79 (by decide) (by decide) hI1.kd hI1.lt hI1.cnt ?_
  refine zF_aload_n 30 dJ5_append_cf1ce_29 rfl rfl ?_
  refine zF_callV 33 (d2 := (d + 3)) (as := [zI (l.length : Int), zR (zbg + i)]) dJ5_append_cf1ce_30 rfl kJ5_208 iJ5_putStringAt_47b60 (ci := 13) rfl eJ5_putStringAt_47b60 (Nat.le_refl _) hI1.kd hI1.lt rfl rfl (Nat.le_of_ble_eq_true rfl) (zE.mono (zt_J5_putStringAt (q := l.length) hG hI1 hi (by omega)) fun ro σx2 hh2 => ?_)
  obtain ⟨er2, es2⟩ := hh2
  subst er2
  subst es2
  refine ⟨rfl, ?_⟩
  refine zF_aload_n 34 dJ5_append_cf1ce_33 rfl rfl ?_
  refine zF_dup 35 dJ5_append_cf1ce_34 rfl rfl ?_
  refine zF_getI 38 dJ5_append_cf1ce_35 rfl gJ5_79 (by decide) (by decide) hI1.kd hI1.lt ((if_neg (fun q => hI1.ne q.1)).trans hI1.cnt) ?_
  refine zF_iload_n 39 dJ5_append_cf1ce_38 rfl rfl ?_
  refine zF_iadd 40 dJ5_append_cf1ce_39 rfl ?_
  refine zF_putI 43 dJ5_append_cf1ce_40 rfl pJ5_append_cf1ce_79 (Or.inl rfl) hI1.kd hI1.lt ?_
  refine zF_aload_n 44 dJ5_append_cf1ce_43 rfl rfl ?_
  exact zF_areturn dJ5_append_cf1ce_44 rfl ((by
    have q := sb_str hi hI1 rfl (by omega)
    exact ⟨rfl, vv1, cap1, q.1, hS1.tr q.2⟩))
theorem zt_J5_setLength  (hG : zOS G) (hI : sbI σ h vv cap l) (hz : zn σ + 5 < zbg) : zE G mJ5_setLength_d00df (d + 4) [zR h, zI 0] σ (fun ro σ1 => ro = .inl none ∧ ∃ vv1 cap1, sbI σ1 h vv1 cap1 [] ∧ sbS σ σ1 h vv vv1 cap cap1) := by
  refine zE_of rfl (by simp [zcat]) (Nat.le_of_ble_eq_true rfl) ?_
  show zF G mJ5_setLength_d00df (d + 4) 0 [(0, zR h), (1, zI 0)] [] σ _
  have hcp := hI.cap
  have hln := hI.len
  refine zF_iload_n 1 dJ5_setLength_d00df_0 rfl rfl ?_
  refine zF_if_ge 13 4 dJ5_setLength_d00df_1 rfl rfl (by first | decide | assumption | (constructor <;> omega)) (fun c1 => ?_) (fun c1 => ?_)
  · refine zF_aload_n 14 dJ5_setLength_d00df_13 rfl rfl ?_
    refine zF_iload_n 15 dJ5_setLength_d00df_14 rfl rfl ?_
    refine zF_callVnn 18 (d2 := (d + 3)) (as := [zI 0]) dJ5_setLength_d00df_15 rfl kJ5_100 iJ5_ensureCapacityInternal_d00df (ci := 13) rfl eJ5_ensureCapacityInternal_d00df (Nat.le_refl _) hI.kd hI.lt rfl rfl (Nat.le_of_ble_eq_true rfl) (by exact (⟨zwR hI.lt, trivial, trivial⟩ : _ ∧ _ ∧ True)) (by exact trivial) (zE.mono (zt_J5_ensure hG hI (by omega) (by omega) hz) fun ro σa1 hh1 => ?_)
    obtain ⟨er1, vv1, cap1, hI1, hS1, hq1⟩ := hh1
    subst er1
    have hcp1 := hI1.cap
    have hln1 := hI1.len
    show zF G mJ5_setLength_d00df (d + 4) 18 [(0, zR h), (1, zI 0)] [] σa1 _
    refine zF_aload_n 19 dJ5_setLength_d00df_18 rfl rfl ?_
    refine zF_getI 22 dJ5_setLength_d00df_19 rfl gJ5_79 (by decide) (by decide) hI1.kd hI1.lt hI1.cnt ?_
    refine zF_iload_n 23 dJ5_setLength_d00df_22 rfl rfl ?_
    refine zF_icmp_ge 63 26 dJ5_setLength_d00df_23 rfl rfl (by first | decide | assumption | (constructor <;> omega)) (by first | decide | assumption | (constructor <;> omega)) (fun c2 => ?_) (fun c2 => ?_)
    · refine zF_aload_n 64 dJ5_setLength_d00df_63 rfl rfl ?_
      refine zF_getI 67 dJ5_setLength_d00df_64 rfl gJ5_79 (by decide) (by decide) hI1.kd hI1.lt hI1.cnt ?_
      refine zF_iload_n 68 dJ5_setLength_d00df_67 rfl rfl ?_
      refine zF_icmp_le 76 71 dJ5_setLength_d00df_68 rfl rfl (by first | decide | assumption | (constructor <;> omega)) (by first | decide | assumption | (constructor <;> omega)) (fun c3 => ?_) (fun c3 => ?_)
      · refine zF_aload_n 77 dJ5_setLength_d00df_76 rfl rfl ?_
        refine zF_iload_n 78 dJ5_setLength_d00df_77 rfl rfl ?_
        refine zF_putI 81 dJ5_setLength_d00df_78 rfl pJ5_setLength_d00df_79 (Or.inl rfl) hI1.kd hI1.lt ?_
        exact zF_return dJ5_setLength_d00df_81 rfl ((by
    have q := sb_clr (σ1 := (zsi σa1 h ((3 : Nat) : Int) 0)) hI1 (zsi_F (by decide) hI1.cod) (zsi_same _ _ _ _) (fun x j a => by (repeat rw [zia_si, if_neg (fun q => a q.1)])) rfl rfl rfl rfl rfl
    exact ⟨rfl, vv1, cap1, q.1, hS1.tr q.2⟩))
      · refine zF_aload_n 72 dJ5_setLength_d00df_71 rfl rfl ?_
        refine zF_iconst 73 dJ5_setLength_d00df_72 rfl ?_
        refine zF_putI 76 dJ5_setLength_d00df_73 rfl pJ5_setLength_d00df_73 (Or.inr ⟨rfl, Or.inr rfl⟩) hI1.kd hI1.lt ?_
        refine zF_aload_n 77 dJ5_setLength_d00df_76 rfl rfl ?_
        refine zF_iload_n 78 dJ5_setLength_d00df_77 rfl rfl ?_
        refine zF_putI 81 dJ5_setLength_d00df_78 rfl pJ5_setLength_d00df_79 (Or.inl rfl) hI1.kd hI1.lt ?_
        exact zF_return dJ5_setLength_d00df_81 rfl ((by
    have q := sb_clr (σ1 := (zsi (zsi σa1 h ((2 : Nat) : Int) 1) h ((3 : Nat) : Int) 0)) hI1 (zsi_F (by decide) (zsi_F (by decide) hI1.cod)) (zsi_same _ _ _ _) (fun x j a => by (repeat rw [zia_si, if_neg (fun q => a q.1)])) rfl rfl rfl rfl rfl
    exact ⟨rfl, vv1, cap1, q.1, hS1.tr q.2⟩))
    · exact absurd c2 (by omega)
  · exact absurd c1 (by omega)
theorem zt_J5_length  (hI : sbI σ h vv cap l) : zP1 G mJ5_length_8abf5 d [zR h] σ (l.length : Int) := by
  refine zE_of rfl (by simp [zcat]) (Nat.le_of_ble_eq_true rfl) ?_
  show zF G mJ5_length_8abf5 d 0 [(0, zR h)] [] σ _
  refine zF_aload_n 1 dJ5_length_8abf5_0 rfl rfl ?_
  refine zF_getI 4 dJ5_length_8abf5_1 rfl gJ5_79 (by decide) (by decide) hI.kd hI.lt hI.cnt ?_
  exact zF_iretP dJ5_length_8abf5_4 rfl (by first | rfl | omega)
theorem zt_J5_charAt {k : Nat} (hG : zOS G) (hI : sbI σ h vv cap l) (hk : k < l.length) (hb : 0 ≤ l.getD k 0 ∧ l.getD k 0 < 128) : zP1 G mJ5_charAt_5068e (d + 2) [zR h, zI (k : Int)] σ (l.getD k 0) := by
  refine zE_of rfl (by simp [zcat]) (Nat.le_of_ble_eq_true rfl) ?_
  show zF G mJ5_charAt_5068e (d + 2) 0 [(0, zR h), (1, zI (k : Int))] [] σ _
  have hcp := hI.cap
  have hln := hI.len
  refine zF_aload_n 1 dJ5_charAt_5068e_0 rfl rfl ?_
  refine zF_getI 4 dJ5_charAt_5068e_1 rfl gJ5_22 (by decide) (by decide) hI.kd hI.lt hI.cod ?_
  refine zF_istore_n 5 (ls' := [(2, zI 0), (0, zR h), (1, zI (k : Int))]) dJ5_charAt_5068e_4 rfl (by decide) rfl ?_
  refine zF_aload_n 6 dJ5_charAt_5068e_5 rfl rfl ?_
  refine zF_getR 9 dJ5_charAt_5068e_6 rfl gJ5_15 hI.kd hI.lt hI.val ?_
  refine zF_astore_n 10 (ls' := [(3, zR vv), (2, zI 0), (0, zR h), (1, zI (k : Int))]) dJ5_charAt_5068e_9 rfl (by decide) rfl ?_
  refine zF_aload_n 11 dJ5_charAt_5068e_10 rfl rfl ?_
  refine zF_getI 14 dJ5_charAt_5068e_11 rfl gJ5_79 (by decide) (by decide) hI.kd hI.lt hI.cnt ?_
  refine zF_aload_n 15 dJ5_charAt_5068e_14 rfl rfl ?_
  refine zF_alen 16 dJ5_charAt_5068e_15 rfl (by decide) hI.vkd hI.vlt ?_
  refine zF_iload_n 17 dJ5_charAt_5068e_16 rfl rfl ?_
  refine zF_ishr 18 dJ5_charAt_5068e_17 rfl ?_
  refine zF_I (b := ((cap : Nat) : Int)) (zshr0 (by first | decide | assumption | (constructor <;> omega))) ?_
  refine zF_min 21 dJ5_charAt_5068e_18 rfl kJ5_138 (Nat.le_refl _) (by first | decide | assumption | (constructor <;> omega)) (by first | decide | assumption | (constructor <;> omega)) (Nat.le_of_ble_eq_true rfl) ?_
  refine zF_istore 23 (ls' := [(4, zI (min (l.length : Int) ((cap : Nat) : Int))), (3, zR vv), (2, zI 0), (0, zR h), (1, zI (k : Int))]) dJ5_charAt_5068e_21 rfl (by decide) rfl ?_
  refine zF_iload_n 24 dJ5_charAt_5068e_23 rfl rfl ?_
  refine zF_iload 26 dJ5_charAt_5068e_24 rfl rfl ?_
  refine zF_callS 29 (d2 := (d + 1)) (as := [zI (k : Int), zI (min (l.length : Int) ((cap : Nat) : Int))]) dJ5_charAt_5068e_26 rfl kJ5_144 sJ0_checkIndex_df160 (Nat.le_refl _) rfl rfl (Nat.le_of_ble_eq_true rfl) (zE.mono (zt_J0_checkIndex hG (by omega) (by omega) (by omega)) fun ro σx1 hh1 => ?_)
  obtain ⟨er1, es1⟩ := hh1
  subst er1
  subst es1
  refine ⟨rfl, ?_⟩
  refine zF_iload_n 30 dJ5_charAt_5068e_29 rfl rfl ?_
  refine zF_if_ne 42 33 dJ5_charAt_5068e_30 rfl rfl (by first | decide | assumption | (constructor <;> omega)) (fun c1 => ?_) (fun c1 => ?_)
  · exact absurd c1 (by decide)
  · refine zF_aload_n 34 dJ5_charAt_5068e_33 rfl rfl ?_
    refine zF_iload_n 35 dJ5_charAt_5068e_34 rfl rfl ?_
    refine zF_baload 36 dJ5_charAt_5068e_35 rfl hI.vkd hI.vlt (by omega) (by omega) (hI.txt k hk) ?_
    refine zF_sipush 39 dJ5_charAt_5068e_36 rfl (by decide) ?_
    refine zF_iand 40 dJ5_charAt_5068e_39 rfl ?_
    refine zF_I (b := (l.getD k 0)) (zand255 hb.1 hb.2) ?_
    refine zF_i2c 41 dJ5_charAt_5068e_40 rfl (by omega) (by omega) ?_
    exact zF_nretP dJ5_charAt_5068e_41 rfl (znar_c (by omega) (by omega)) (rfl)
theorem zt_J4_appendC {c : Int} (hG : zOS G) (hI : sbI σ h vv cap l) (hz : zn σ + 5 < zbg) (h0 : 0 ≤ c) (h1 : c < 128) (hl : l.length + 1 ≤ 34) : zE G mJ4_append_cf468 (d + 5) [zR h, zI c] σ (fun ro σ1 => ro = .inl (some (zR h)) ∧ ∃ vv1 cap1, sbI σ1 h vv1 cap1 (l ++ [c]) ∧ sbS σ σ1 h vv vv1 cap cap1) := by
  refine zE_of rfl (by simp [zcat]) (Nat.le_of_ble_eq_true rfl) ?_
  show zF G mJ4_append_cf468 (d + 5) 0 [(0, zR h), (1, zI c)] [] σ _
  refine zF_aload_n 1 dJ4_append_cf468_0 rfl rfl ?_
  refine zF_iload_n 2 dJ4_append_cf468_1 rfl rfl ?_
  refine zF_callSUn 5 (d2 := (d + 4)) (as := [zI c]) (v := (some (zR h))) dJ4_append_cf468_2 rfl kJ4_50 rfl rfl (by decide) iJ5_append_3fe6f (zi10 158 rfl rfl) (zi1 69 rfl rfl) (Nat.le_refl _) hI.kd hI.lt rfl rfl (Nat.le_of_ble_eq_true rfl) (by exact (⟨zwR hI.lt, trivial, trivial⟩ : _ ∧ _ ∧ True)) (by exact trivial) (zE.mono (zt_J5_appendC hG hI hz h0 h1 hl) fun ro σ1 hh => ?_)
  obtain ⟨er, vv1, cap1, hI1, hS1⟩ := hh
  refine ⟨er, ?_⟩
  show zF G mJ4_append_cf468 (d + 5) 5 [(0, zR h), (1, zI c)] [zR h] σ1 _
  show zF G mJ4_append_cf468 (d + 5) 5 [(0, zR h), (1, zI c)] [zR h] σ1 _
  refine zF_pop 6 dJ4_append_cf468_5 rfl rfl ?_
  refine zF_aload_n 7 dJ4_append_cf468_6 rfl rfl ?_
  exact zF_areturn dJ4_append_cf468_7 rfl (⟨rfl, vv1, cap1, hI1, hS1⟩)
theorem zt_J4_appendI {v : Int} (hG : zOS G) (hI : sbI σ h vv cap l) (hz : zn σ + 5 < zbg) (hD : zOD G) (v0 : 0 ≤ v) (v1 : v < 10) (hl : l.length + 1 ≤ 34) : zE G mJ4_append_bf812 (d + 5) [zR h, zI v] σ (fun ro σ1 => ro = .inl (some (zR h)) ∧ ∃ vv1 cap1, sbI σ1 h vv1 cap1 (l ++ [48 + v]) ∧ sbS σ σ1 h vv vv1 cap cap1) := by
  refine zE_of rfl (by simp [zcat]) (Nat.le_of_ble_eq_true rfl) ?_
  show zF G mJ4_append_bf812 (d + 5) 0 [(0, zR h), (1, zI v)] [] σ _
  refine zF_aload_n 1 dJ4_append_bf812_0 rfl rfl ?_
  refine zF_iload_n 2 dJ4_append_bf812_1 rfl rfl ?_
  refine zF_callSUn 5 (d2 := (d + 4)) (as := [zI v]) (v := (some (zR h))) dJ4_append_bf812_2 rfl kJ4_53 rfl rfl (by decide) iJ5_append_c97b9 (zi10 156 rfl rfl) (zi1 69 rfl rfl) (Nat.le_refl _) hI.kd hI.lt rfl rfl (Nat.le_of_ble_eq_true rfl) (by exact (⟨zwR hI.lt, trivial, trivial⟩ : _ ∧ _ ∧ True)) (by exact trivial) (zE.mono (zt_J5_appendI hG hI hz hD v0 v1 hl) fun ro σ1 hh => ?_)
  obtain ⟨er, vv1, cap1, hI1, hS1⟩ := hh
  refine ⟨er, ?_⟩
  show zF G mJ4_append_bf812 (d + 5) 5 [(0, zR h), (1, zI v)] [zR h] σ1 _
  show zF G mJ4_append_bf812 (d + 5) 5 [(0, zR h), (1, zI v)] [zR h] σ1 _
  refine zF_pop 6 dJ4_append_bf812_5 rfl rfl ?_
  refine zF_aload_n 7 dJ4_append_bf812_6 rfl rfl ?_
  exact zF_areturn dJ4_append_bf812_7 rfl (⟨rfl, vv1, cap1, hI1, hS1⟩)
theorem zt_J4_appendS {i : Nat} (hG : zOS G) (hI : sbI σ h vv cap l) (hz : zn σ + 5 < zbg) (hi : i < 59) (hl : l.length + zsl i ≤ 34) : zE G mJ4_append_15ec4 (d + 5) [zR h, zR (zbg + i)] σ (fun ro σ1 => ro = .inl (some (zR h)) ∧ ∃ vv1 cap1, sbI σ1 h vv1 cap1 (l ++ zsbi i) ∧ sbS σ σ1 h vv vv1 cap cap1) := by
  refine zE_of rfl (by simp [zcat]) (Nat.le_of_ble_eq_true rfl) ?_
  show zF G mJ4_append_15ec4 (d + 5) 0 [(0, zR h), (1, zR (zbg + i))] [] σ _
  refine zF_aload_n 1 dJ4_append_15ec4_0 rfl rfl ?_
  refine zF_aload_n 2 dJ4_append_15ec4_1 rfl rfl ?_
  refine zF_callSUn 5 (d2 := (d + 4)) (as := [zR (zbg + i)]) (v := (some (zR h))) dJ4_append_15ec4_2 rfl kJ4_29 rfl rfl (by decide) iJ5_append_cf1ce (zi10 151 rfl rfl) (zi1 69 rfl rfl) (Nat.le_refl _) hI.kd hI.lt rfl rfl (Nat.le_of_ble_eq_true rfl) (by exact (⟨zwR hI.lt, zwO, trivial⟩ : _ ∧ _ ∧ True)) (by exact trivial) (zE.mono (zt_J5_appendS hG hI hz hi hl) fun ro σ1 hh => ?_)
  obtain ⟨er, vv1, cap1, hI1, hS1⟩ := hh
  refine ⟨er, ?_⟩
  show zF G mJ4_append_15ec4 (d + 5) 5 [(0, zR h), (1, zR (zbg + i))] [zR h] σ1 _
  show zF G mJ4_append_15ec4 (d + 5) 5 [(0, zR h), (1, zR (zbg + i))] [zR h] σ1 _
  refine zF_pop 6 dJ4_append_15ec4_5 rfl rfl ?_
  refine zF_aload_n 7 dJ4_append_15ec4_6 rfl rfl ?_
  exact zF_areturn dJ4_append_15ec4_7 rfl (⟨rfl, vv1, cap1, hI1, hS1⟩)
theorem zt_J4_setLength  (hG : zOS G) (hI : sbI σ h vv cap l) (hz : zn σ + 5 < zbg) : zE G mJ4_setLength_d00df (d + 5) [zR h, zI 0] σ (fun ro σ1 => ro = .inl none ∧ ∃ vv1 cap1, sbI σ1 h vv1 cap1 [] ∧ sbS σ σ1 h vv vv1 cap cap1) := by
  refine zE_of rfl (by simp [zcat]) (Nat.le_of_ble_eq_true rfl) ?_
  show zF G mJ4_setLength_d00df (d + 5) 0 [(0, zR h), (1, zI 0)] [] σ _
  refine zF_aload_n 1 dJ4_setLength_d00df_0 rfl rfl ?_
  refine zF_iload_n 2 dJ4_setLength_d00df_1 rfl rfl ?_
  refine zF_callSUn 5 (d2 := (d + 4)) (as := [zI 0]) (v := none) dJ4_setLength_d00df_2 rfl kJ4_333 rfl rfl (by decide) iJ5_setLength_d00df (zi10 148 rfl rfl) (zi1 69 rfl rfl) (Nat.le_refl _) hI.kd hI.lt rfl rfl (Nat.le_of_ble_eq_true rfl) (by exact (⟨zwR hI.lt, trivial, trivial⟩ : _ ∧ _ ∧ True)) (by exact trivial) (zE.mono (zt_J5_setLength hG hI hz) fun ro σ1 hh => ?_)
  obtain ⟨er, vv1, cap1, hI1, hS1⟩ := hh
  refine ⟨er, ?_⟩
  show zF G mJ4_setLength_d00df (d + 5) 5 [(0, zR h), (1, zI 0)] [] σ1 _
  show zF G mJ4_setLength_d00df (d + 5) 5 [(0, zR h), (1, zI 0)] [] σ1 _
  exact zF_return dJ4_setLength_d00df_5 rfl (⟨rfl, vv1, cap1, hI1, hS1⟩)
theorem zt_J4_length  (hI : sbI σ h vv cap l) : zP1 G mJ4_length_8abf5 (d + 1) [zR h] σ (l.length : Int) := by
  refine zE_of rfl (by simp [zcat]) (Nat.le_of_ble_eq_true rfl) ?_
  show zF G mJ4_length_8abf5 (d + 1) 0 [(0, zR h)] [] σ _
  have hcp := hI.cap
  have hln := hI.len
  refine zF_aload_n 1 dJ4_length_8abf5_0 rfl rfl ?_
  refine zF_callSUn 4 (d2 := d) (as := []) (v := (some (zI (l.length : Int)))) dJ4_length_8abf5_1 rfl kJ4_343 rfl rfl (by decide) iJ5_length_8abf5 (zi10 145 rfl rfl) (zi1 69 rfl rfl) (Nat.le_refl _) hI.kd hI.lt rfl rfl (Nat.le_of_ble_eq_true rfl) (by exact (⟨zwR hI.lt, trivial⟩ : _ ∧ True)) (by exact trivial) (zE.mono (zt_J5_length hI) fun ro σ1 hh => ?_)
  obtain ⟨es, er⟩ := hh
  replace es := es.symm
  subst es
  refine ⟨er, ?_⟩
  show zF G mJ4_length_8abf5 (d + 1) 4 [(0, zR h)] [zI (l.length : Int)] σ _
  show zF G mJ4_length_8abf5 (d + 1) 4 [(0, zR h)] [zI (l.length : Int)] σ _
  exact zF_iretP dJ4_length_8abf5_4 rfl (rfl)
theorem zt_J4_charAt {k : Nat} (hG : zOS G) (hI : sbI σ h vv cap l) (hk : k < l.length) (hb : 0 ≤ l.getD k 0 ∧ l.getD k 0 < 128) : zP1 G mJ4_charAt_5068e (d + 3) [zR h, zI (k : Int)] σ (l.getD k 0) := by
  refine zE_of rfl (by simp [zcat]) (Nat.le_of_ble_eq_true rfl) ?_
  show zF G mJ4_charAt_5068e (d + 3) 0 [(0, zR h), (1, zI (k : Int))] [] σ _
  have hcp := hI.cap
  have hln := hI.len
  refine zF_aload_n 1 dJ4_charAt_5068e_0 rfl rfl ?_
  refine zF_iload_n 2 dJ4_charAt_5068e_1 rfl rfl ?_
  refine zF_callSUn 5 (d2 := (d + 2)) (as := [zI (k : Int)]) (v := (some (zI (l.getD k 0)))) dJ4_charAt_5068e_2 rfl kJ4_329 rfl rfl (by decide) iJ5_charAt_5068e (zi10 146 rfl rfl) (zi1 69 rfl rfl) (Nat.le_refl _) hI.kd hI.lt rfl rfl (Nat.le_of_ble_eq_true rfl) (by exact (⟨zwR hI.lt, trivial, trivial⟩ : _ ∧ _ ∧ True)) (by exact trivial) (zE.mono (zt_J5_charAt hG hI hk hb) fun ro σ1 hh => ?_)
  obtain ⟨es, er⟩ := hh
  replace es := es.symm
  subst es
  refine ⟨er, ?_⟩
  show zF G mJ4_charAt_5068e (d + 3) 5 [(0, zR h), (1, zI (k : Int))] [zI (l.getD k 0)] σ _
  show zF G mJ4_charAt_5068e (d + 3) 5 [(0, zR h), (1, zI (k : Int))] [zI (l.getD k 0)] σ _
  exact zF_nretP dJ4_charAt_5068e_5 rfl (znar_c (by omega) (by omega)) (rfl)
end ZSD

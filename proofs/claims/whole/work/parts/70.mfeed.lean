/-! the reference: the text fed -/
section ZFM
variable {G : zG} {d : Nat} {σ σ0 : zMem} {hm : Nat} {A : Nat → Nat} {N : Int → Int} {l : List Int}
def mPf (hm : Nat) (A : Nat → Nat) (h : Nat) (j : Int) : Prop := (h = hm ∧ (j = 5 ∨ j = 19)) ∨ h = A 18
theorem fdV_k {x1 x2 x3 x4 x5 : Int} {x : Nat} : (x < 4 → fdV x1 x2 x3 x4 x5 x = x1) ∧ (¬ x < 4 → x < 8 → fdV x1 x2 x3 x4 x5 x = x2) ∧ (¬ x < 8 → x < 12 → fdV x1 x2 x3 x4 x5 x = x3) ∧ (¬ x < 12 → x < 16 → fdV x1 x2 x3 x4 x5 x = x4) ∧ (¬ x < 16 → fdV x1 x2 x3 x4 x5 x = x5) := by
  unfold fdV
  refine ⟨fun h => ?_, fun h k => ?_, fun h k => ?_, fun h k => ?_, fun h => ?_⟩ <;> (repeat (first | rw [if_pos (by omega)] | rw [if_neg (by omega)]))
theorem mfd_2 (hM : zMo σ hm A) {i v w : Int} {g g' : Int → Int} (h : ∀ j, zia σ (A 18) j = g j) (e : ∀ j, g' j = if j = i then v else g j) : ∀ j, zia (zsi (zsi σ (A 18) i v) hm ((19 : Nat) : Int) w) (A 18) j = g' j := fun j => by
  rw [zia_si, if_neg (fun q => zMo_hm1 hM (k := 18) (by decide) zMo_h1 q.1), zia_si, e]
  by_cases q : j = i
  · rw [if_pos ⟨rfl, q⟩, if_pos q]
  · rw [if_neg (fun z => q z.2), if_neg q, h]
theorem zt_X12_feed {x1 x2 x3 x4 x5 c : Int} (hM : zMo σ hm A) (hc : zia σ hm ((19 : Nat) : Int) = c) (c0 : 0 ≤ c) (c1 : c ≤ 700) (z1 : zrg x1) (z2 : zrg x2) (z3 : zrg x3) (z4 : zrg x4) (z5 : zrg x5) : zE G mX12_feed (d + 6) [zR hm, zI x1, zI x2, zI x3, zI x4, zI x5] σ (fun ro σ1 => if c + 20 ≤ 700 then ro = .inl (some (zI (c + 20))) ∧ zFr (mPf hm A) σ σ1 ∧ zia σ1 hm ((5 : Nat) : Int) = 0 ∧ zia σ1 hm ((19 : Nat) : Int) = c + 20 ∧ ∀ j, zia σ1 (A 18) j = (if c ≤ j ∧ j < c + 20 then fdT x1 x2 x3 x4 x5 (j - c) % 256 else zia σ (A 18) j) else ro = .inl (some (zI (-1))) ∧ σ1 = zsi σ hm ((5 : Nat) : Int) 0) := by
  refine zE_of rfl (by simp [zcat]) (Nat.le_of_ble_eq_true rfl) ?_
  show zF G mX12_feed (d + 6) 0 [(0, zR hm), (1, zI x1), (2, zI x2), (3, zI x3), (4, zI x4), (5, zI x5)] [] σ _
  refine zF_aload_n 1 dX12_feed_0 rfl rfl ?_
  refine zF_iconst 2 dX12_feed_1 rfl ?_
  refine zF_putI 5 dX12_feed_2 rfl pX12_feed_89 (Or.inl rfl) hM.1 hM.2.1 ?_
  refine zF_aload_n 6 dX12_feed_5 rfl rfl ?_
  refine zF_getI 9 dX12_feed_6 rfl gX12_339 (by decide) (by decide) hM.1 hM.2.1 (zsi_F (by decide) hc) ?_
  refine zF_bipush 11 dX12_feed_9 rfl (by decide) ?_
  refine zF_iadd 12 dX12_feed_11 rfl ?_
  refine zF_sipush 15 dX12_feed_12 rfl (by decide) ?_
  refine zF_icmp_le 20 18 dX12_feed_15 rfl rfl (by first | decide | assumption | exact zsh_rg _ _ | (constructor <;> omega)) (by first | decide | assumption | exact zsh_rg _ _ | (constructor <;> omega)) (fun c1 => ?_) (fun c1 => ?_)
  · refine zF_iconst 21 dX12_feed_20 rfl ?_
    refine zF_istore 23 (ls' := [(6, zI 0), (0, zR hm), (1, zI x1), (2, zI x2), (3, zI x3), (4, zI x4), (5, zI x5)]) dX12_feed_21 rfl (by decide) rfl ?_
    refine zF_locs (ls' := [(6, zI ((0 : Nat) : Int)), (0, zR hm), (1, zI x1), (2, zI x2), (3, zI x3), (4, zI x4), (5, zI x5)]) ⟨zlI rfl (by first | rfl | omega | (push_cast; omega) | exact congrArg (_ + ·) (zbT (by assumption)) | exact congrArg (_ + ·) (zbF (by assumption)) | exact congrArg (_ + ·) (zbT (by omega)) | exact congrArg (_ + ·) (zbF (by omega)) | exact congrArg (_ + ·) (if_pos (by omega)).symm | exact congrArg (_ + ·) (if_neg (by omega)).symm | exact (if_pos (by omega)).symm | exact (if_neg (by omega)).symm | exact zsub_s (if_pos (by omega)).symm | exact zsub_s0 (if_neg (by omega)).symm | exact zadd0 (if_neg (by omega)).symm | exact zadd0 (zbF (by omega)) | exact (Int.sub_zero _).symm), rfl, rfl, rfl, rfl, rfl, rfl, trivial⟩ ?_
    refine zF_while (X := Nat) (fun x => 20 - x) (fun x σ2 => x ≤ 20 ∧ zFr (mPf hm A) σ σ2 ∧ zia σ2 hm ((5 : Nat) : Int) = 0 ∧ zia σ2 hm ((19 : Nat) : Int) = c + (x : Int) ∧ ∀ j, zia σ2 (A 18) j = (if c ≤ j ∧ j < c + (x : Int) then fdT x1 x2 x3 x4 x5 (j - c) % 256 else zia σ (A 18) j)) (fun x => [(6, zI ((x : Nat) : Int)), (0, zR hm), (1, zI x1), (2, zI x2), (3, zI x3), (4, zI x4), (5, zI x5)]) ?_ 0 (zsi σ hm ((5 : Nat) : Int) 0) (⟨by omega, (zFr_si (Or.inl ⟨rfl, by decide⟩) zFr.rf), (zsi_same _ _ _ _), (zsi_F (by decide) hc).trans (by omega), fun j => by rw [if_neg (by omega)]; exact congrFun (zMo_hN (k := 18) rfl hM (by decide) zMo_h1) j⟩)
    intro x σ2 hI23 ih23
    show zF G mX12_feed (d + 6) 23 [(6, zI ((x : Nat) : Int)), (0, zR hm), (1, zI x1), (2, zI x2), (3, zI x3), (4, zI x4), (5, zI x5)] [] σ2 _
    obtain ⟨hx, f2, h5, h19, g2⟩ := hI23
    have hM2 := zMo_f2 f2 hM
    have hx4 : x ≤ 20 := hx
    refine zF_iload 25 dX12_feed_23 rfl rfl ?_
    refine zF_bipush 27 dX12_feed_25 rfl (by decide) ?_
    refine zF_icmp_ge 120 30 dX12_feed_27 rfl rfl (by first | decide | assumption | exact zsh_rg _ _ | (constructor <;> omega)) (by first | decide | assumption | exact zsh_rg _ _ | (constructor <;> omega)) (fun c2 => ?_) (fun c2 => ?_)
    · refine zF_aload_n 121 dX12_feed_120 rfl rfl ?_
      refine zF_getI 124 dX12_feed_121 rfl gX12_339 (by decide) (by decide) hM2.1 hM2.2.1 h19 ?_
      exact zF_ireturn dX12_feed_124 rfl ((by
    have hx9 : x = 20 := by omega
    subst hx9
    rw [if_pos (by omega)]; exact ⟨rfl, f2, h5, h19, g2⟩))
    · refine zF_iload 32 dX12_feed_30 rfl rfl ?_
      refine zF_iconst 33 dX12_feed_32 rfl ?_
      refine zF_icmp_ge 40 36 dX12_feed_33 rfl rfl (by first | decide | assumption | exact zsh_rg _ _ | (constructor <;> omega)) (by first | decide | assumption | exact zsh_rg _ _ | (constructor <;> omega)) (fun c3 => ?_) (fun c3 => ?_)
      · refine zF_iload 42 dX12_feed_40 rfl rfl ?_
        refine zF_bipush 44 dX12_feed_42 rfl (by decide) ?_
        refine zF_icmp_ge 51 47 dX12_feed_44 rfl rfl (by first | decide | assumption | exact zsh_rg _ _ | (constructor <;> omega)) (by first | decide | assumption | exact zsh_rg _ _ | (constructor <;> omega)) (fun c4 => ?_) (fun c4 => ?_)
        · refine zF_iload 53 dX12_feed_51 rfl rfl ?_
          refine zF_bipush 55 dX12_feed_53 rfl (by decide) ?_
          refine zF_icmp_ge 62 58 dX12_feed_55 rfl rfl (by first | decide | assumption | exact zsh_rg _ _ | (constructor <;> omega)) (by first | decide | assumption | exact zsh_rg _ _ | (constructor <;> omega)) (fun c5 => ?_) (fun c5 => ?_)
          · refine zF_iload 64 dX12_feed_62 rfl rfl ?_
            refine zF_bipush 66 dX12_feed_64 rfl (by decide) ?_
            refine zF_icmp_ge 74 69 dX12_feed_66 rfl rfl (by first | decide | assumption | exact zsh_rg _ _ | (constructor <;> omega)) (by first | decide | assumption | exact zsh_rg _ _ | (constructor <;> omega)) (fun c6 => ?_) (fun c6 => ?_)
            · refine zF_iload 76 dX12_feed_74 rfl rfl ?_
              refine zF_istore 78 (ls' := [(7, zI x5), (6, zI ((x : Nat) : Int)), (0, zR hm), (1, zI x1), (2, zI x2), (3, zI x3), (4, zI x4), (5, zI x5)]) dX12_feed_76 rfl (by decide) rfl ?_
              refine zF_aload_n 79 dX12_feed_78 rfl rfl ?_
              refine zF_getR 82 dX12_feed_79 rfl gX12_47 hM2.1 hM2.2.1 (zM_18 hM2).1 ?_
              refine zF_aload_n 83 dX12_feed_82 rfl rfl ?_
              refine zF_getI 86 dX12_feed_83 rfl gX12_339 (by decide) (by decide) hM2.1 hM2.2.1 h19 ?_
              refine zF_iload 88 dX12_feed_86 rfl rfl ?_
              refine zF_bipush 90 dX12_feed_88 rfl (by decide) ?_
              refine zF_bipush 92 dX12_feed_90 rfl (by decide) ?_
              refine zF_iload 94 dX12_feed_92 rfl rfl ?_
              refine zF_iconst 95 dX12_feed_94 rfl ?_
              refine zF_irem 96 dX12_feed_95 rfl (by omega) (by omega) (by omega) (by omega) ?_
              refine zF_imul 97 dX12_feed_96 rfl ?_
              refine zF_isub 98 dX12_feed_97 rfl ?_
              refine zF_ishr 99 dX12_feed_98 rfl ?_
              refine zF_I (b := (zsh x5 (24 - (8 * (((x : Nat) : Int) % 4))))) (rfl) ?_
              refine zF_sipush 102 dX12_feed_99 rfl (by decide) ?_
              refine zF_iand 103 dX12_feed_102 rfl ?_
              refine zF_I (b := ((zsh x5 (24 - (8 * (((x : Nat) : Int) % 4)))) % 256)) (zand255g (by first | assumption | exact zsh_rg _ _)) ?_
              refine zF_iastore 104 dX12_feed_103 rfl (zM_18 hM2).2.2 (zM_18 hM2).2.1 (by omega) (by omega) ?_
              refine zF_aload_n 105 dX12_feed_104 rfl rfl ?_
              refine zF_dup 106 dX12_feed_105 rfl rfl ?_
              refine zF_getI 109 dX12_feed_106 rfl gX12_339 (by decide) (by decide) hM2.1 hM2.2.1 (zMo_AF (j := 18) h19 hM2 (by decide) zMo_h1) ?_
              refine zF_iconst 110 dX12_feed_109 rfl ?_
              refine zF_iadd 111 dX12_feed_110 rfl ?_
              refine zF_putI 114 dX12_feed_111 rfl pX12_feed_339 (Or.inl rfl) hM2.1 hM2.2.1 ?_
              refine zF_iinc 117 (ls' := [(6, zI (((x : Nat) : Int) + 1)), (7, zI x5), (0, zR hm), (1, zI x1), (2, zI x2), (3, zI x3), (4, zI x4), (5, zI x5)]) dX12_feed_114 rfl rfl rfl (by decide) rfl ?_
              refine zF_goto 23 dX12_feed_117 rfl ?_
              exact zF_locs (ls' := [(6, zI (((x + 1) : Nat) : Int)), (0, zR hm), (1, zI x1), (2, zI x2), (3, zI x3), (4, zI x4), (5, zI x5)]) ⟨zlI rfl (by first | rfl | omega | (push_cast; omega) | exact congrArg (_ + ·) (zbT (by assumption)) | exact congrArg (_ + ·) (zbF (by assumption)) | exact congrArg (_ + ·) (zbT (by omega)) | exact congrArg (_ + ·) (zbF (by omega)) | exact congrArg (_ + ·) (if_pos (by omega)).symm | exact congrArg (_ + ·) (if_neg (by omega)).symm | exact (if_pos (by omega)).symm | exact (if_neg (by omega)).symm | exact zsub_s (if_pos (by omega)).symm | exact zsub_s0 (if_neg (by omega)).symm | exact zadd0 (if_neg (by omega)).symm | exact zadd0 (zbF (by omega)) | exact (Int.sub_zero _).symm), rfl, rfl, rfl, rfl, rfl, rfl, trivial⟩ (ih23 (x + 1) _ (by omega) (⟨by omega, (zFr_si (Or.inl ⟨rfl, by decide⟩) (zFr_si (Or.inr rfl) f2)), (zsi_F (by decide) (zMo_AF (j := 18) h5 hM2 (by decide) zMo_h1)), (zsi_same _ _ _ _).trans (by push_cast; omega), mfd_2 hM2 g2 fun j => by
          by_cases q : j = c + (x : Int)
          · rw [if_pos q, if_pos ⟨by omega, by push_cast; omega⟩, q, show c + (x : Int) - c = (x : Int) by omega]; exact congrArg (fun z => zsh z (24 - 8 * ((x : Int) % 4)) % 256) (fdV_k.2.2.2.2 (by omega))
          · rw [if_neg q]; by_cases q2 : c ≤ j ∧ j < c + (x : Int)
            · rw [if_pos q2, if_pos ⟨by omega, by push_cast; omega⟩]
            · rw [if_neg q2, if_neg (fun z => q2 ⟨z.1, by have := z.2; push_cast at this; omega⟩)]⟩))
            · refine zF_iload 71 dX12_feed_69 rfl rfl ?_
              refine zF_goto 76 dX12_feed_71 rfl ?_
              refine zF_istore 78 (ls' := [(7, zI x4), (6, zI ((x : Nat) : Int)), (0, zR hm), (1, zI x1), (2, zI x2), (3, zI x3), (4, zI x4), (5, zI x5)]) dX12_feed_76 rfl (by decide) rfl ?_
              refine zF_aload_n 79 dX12_feed_78 rfl rfl ?_
              refine zF_getR 82 dX12_feed_79 rfl gX12_47 hM2.1 hM2.2.1 (zM_18 hM2).1 ?_
              refine zF_aload_n 83 dX12_feed_82 rfl rfl ?_
              refine zF_getI 86 dX12_feed_83 rfl gX12_339 (by decide) (by decide) hM2.1 hM2.2.1 h19 ?_
              refine zF_iload 88 dX12_feed_86 rfl rfl ?_
              refine zF_bipush 90 dX12_feed_88 rfl (by decide) ?_
              refine zF_bipush 92 dX12_feed_90 rfl (by decide) ?_
              refine zF_iload 94 dX12_feed_92 rfl rfl ?_
              refine zF_iconst 95 dX12_feed_94 rfl ?_
              refine zF_irem 96 dX12_feed_95 rfl (by omega) (by omega) (by omega) (by omega) ?_
              refine zF_imul 97 dX12_feed_96 rfl ?_
              refine zF_isub 98 dX12_feed_97 rfl ?_
              refine zF_ishr 99 dX12_feed_98 rfl ?_
              refine zF_I (b := (zsh x4 (24 - (8 * (((x : Nat) : Int) % 4))))) (rfl) ?_
              refine zF_sipush 102 dX12_feed_99 rfl (by decide) ?_
              refine zF_iand 103 dX12_feed_102 rfl ?_
              refine zF_I (b := ((zsh x4 (24 - (8 * (((x : Nat) : Int) % 4)))) % 256)) (zand255g (by first | assumption | exact zsh_rg _ _)) ?_
              refine zF_iastore 104 dX12_feed_103 rfl (zM_18 hM2).2.2 (zM_18 hM2).2.1 (by omega) (by omega) ?_
              refine zF_aload_n 105 dX12_feed_104 rfl rfl ?_
              refine zF_dup 106 dX12_feed_105 rfl rfl ?_
              refine zF_getI 109 dX12_feed_106 rfl gX12_339 (by decide) (by decide) hM2.1 hM2.2.1 (zMo_AF (j := 18) h19 hM2 (by decide) zMo_h1) ?_
              refine zF_iconst 110 dX12_feed_109 rfl ?_
              refine zF_iadd 111 dX12_feed_110 rfl ?_
              refine zF_putI 114 dX12_feed_111 rfl pX12_feed_339 (Or.inl rfl) hM2.1 hM2.2.1 ?_
              refine zF_iinc 117 (ls' := [(6, zI (((x : Nat) : Int) + 1)), (7, zI x4), (0, zR hm), (1, zI x1), (2, zI x2), (3, zI x3), (4, zI x4), (5, zI x5)]) dX12_feed_114 rfl rfl rfl (by decide) rfl ?_
              refine zF_goto 23 dX12_feed_117 rfl ?_
              exact zF_locs (ls' := [(6, zI (((x + 1) : Nat) : Int)), (0, zR hm), (1, zI x1), (2, zI x2), (3, zI x3), (4, zI x4), (5, zI x5)]) ⟨zlI rfl (by first | rfl | omega | (push_cast; omega) | exact congrArg (_ + ·) (zbT (by assumption)) | exact congrArg (_ + ·) (zbF (by assumption)) | exact congrArg (_ + ·) (zbT (by omega)) | exact congrArg (_ + ·) (zbF (by omega)) | exact congrArg (_ + ·) (if_pos (by omega)).symm | exact congrArg (_ + ·) (if_neg (by omega)).symm | exact (if_pos (by omega)).symm | exact (if_neg (by omega)).symm | exact zsub_s (if_pos (by omega)).symm | exact zsub_s0 (if_neg (by omega)).symm | exact zadd0 (if_neg (by omega)).symm | exact zadd0 (zbF (by omega)) | exact (Int.sub_zero _).symm), rfl, rfl, rfl, rfl, rfl, rfl, trivial⟩ (ih23 (x + 1) _ (by omega) (⟨by omega, (zFr_si (Or.inl ⟨rfl, by decide⟩) (zFr_si (Or.inr rfl) f2)), (zsi_F (by decide) (zMo_AF (j := 18) h5 hM2 (by decide) zMo_h1)), (zsi_same _ _ _ _).trans (by push_cast; omega), mfd_2 hM2 g2 fun j => by
          by_cases q : j = c + (x : Int)
          · rw [if_pos q, if_pos ⟨by omega, by push_cast; omega⟩, q, show c + (x : Int) - c = (x : Int) by omega]; exact congrArg (fun z => zsh z (24 - 8 * ((x : Int) % 4)) % 256) (fdV_k.2.2.2.1 (by omega) (by omega))
          · rw [if_neg q]; by_cases q2 : c ≤ j ∧ j < c + (x : Int)
            · rw [if_pos q2, if_pos ⟨by omega, by push_cast; omega⟩]
            · rw [if_neg q2, if_neg (fun z => q2 ⟨z.1, by have := z.2; push_cast at this; omega⟩)]⟩))
          · refine zF_iload_n 59 dX12_feed_58 rfl rfl ?_
            refine zF_goto 76 dX12_feed_59 rfl ?_
            refine zF_istore 78 (ls' := [(7, zI x3), (6, zI ((x : Nat) : Int)), (0, zR hm), (1, zI x1), (2, zI x2), (3, zI x3), (4, zI x4), (5, zI x5)]) dX12_feed_76 rfl (by decide) rfl ?_
            refine zF_aload_n 79 dX12_feed_78 rfl rfl ?_
            refine zF_getR 82 dX12_feed_79 rfl gX12_47 hM2.1 hM2.2.1 (zM_18 hM2).1 ?_
            refine zF_aload_n 83 dX12_feed_82 rfl rfl ?_
            refine zF_getI 86 dX12_feed_83 rfl gX12_339 (by decide) (by decide) hM2.1 hM2.2.1 h19 ?_
            refine zF_iload 88 dX12_feed_86 rfl rfl ?_
            refine zF_bipush 90 dX12_feed_88 rfl (by decide) ?_
            refine zF_bipush 92 dX12_feed_90 rfl (by decide) ?_
            refine zF_iload 94 dX12_feed_92 rfl rfl ?_
            refine zF_iconst 95 dX12_feed_94 rfl ?_
            refine zF_irem 96 dX12_feed_95 rfl (by omega) (by omega) (by omega) (by omega) ?_
            refine zF_imul 97 dX12_feed_96 rfl ?_
            refine zF_isub 98 dX12_feed_97 rfl ?_
            refine zF_ishr 99 dX12_feed_98 rfl ?_
            refine zF_I (b := (zsh x3 (24 - (8 * (((x : Nat) : Int) % 4))))) (rfl) ?_
            refine zF_sipush 102 dX12_feed_99 rfl (by decide) ?_
            refine zF_iand 103 dX12_feed_102 rfl ?_
            refine zF_I (b := ((zsh x3 (24 - (8 * (((x : Nat) : Int) % 4)))) % 256)) (zand255g (by first | assumption | exact zsh_rg _ _)) ?_
            refine zF_iastore 104 dX12_feed_103 rfl (zM_18 hM2).2.2 (zM_18 hM2).2.1 (by omega) (by omega) ?_
            refine zF_aload_n 105 dX12_feed_104 rfl rfl ?_
            refine zF_dup 106 dX12_feed_105 rfl rfl ?_
            refine zF_getI 109 dX12_feed_106 rfl gX12_339 (by decide) (by decide) hM2.1 hM2.2.1 (zMo_AF (j := 18) h19 hM2 (by decide) zMo_h1) ?_
            refine zF_iconst 110 dX12_feed_109 rfl ?_
            refine zF_iadd 111 dX12_feed_110 rfl ?_
            refine zF_putI 114 dX12_feed_111 rfl pX12_feed_339 (Or.inl rfl) hM2.1 hM2.2.1 ?_
            refine zF_iinc 117 (ls' := [(6, zI (((x : Nat) : Int) + 1)), (7, zI x3), (0, zR hm), (1, zI x1), (2, zI x2), (3, zI x3), (4, zI x4), (5, zI x5)]) dX12_feed_114 rfl rfl rfl (by decide) rfl ?_
            refine zF_goto 23 dX12_feed_117 rfl ?_
            exact zF_locs (ls' := [(6, zI (((x + 1) : Nat) : Int)), (0, zR hm), (1, zI x1), (2, zI x2), (3, zI x3), (4, zI x4), (5, zI x5)]) ⟨zlI rfl (by first | rfl | omega | (push_cast; omega) | exact congrArg (_ + ·) (zbT (by assumption)) | exact congrArg (_ + ·) (zbF (by assumption)) | exact congrArg (_ + ·) (zbT (by omega)) | exact congrArg (_ + ·) (zbF (by omega)) | exact congrArg (_ + ·) (if_pos (by omega)).symm | exact congrArg (_ + ·) (if_neg (by omega)).symm | exact (if_pos (by omega)).symm | exact (if_neg (by omega)).symm | exact zsub_s (if_pos (by omega)).symm | exact zsub_s0 (if_neg (by omega)).symm | exact zadd0 (if_neg (by omega)).symm | exact zadd0 (zbF (by omega)) | exact (Int.sub_zero _).symm), rfl, rfl, rfl, rfl, rfl, rfl, trivial⟩ (ih23 (x + 1) _ (by omega) (⟨by omega, (zFr_si (Or.inl ⟨rfl, by decide⟩) (zFr_si (Or.inr rfl) f2)), (zsi_F (by decide) (zMo_AF (j := 18) h5 hM2 (by decide) zMo_h1)), (zsi_same _ _ _ _).trans (by push_cast; omega), mfd_2 hM2 g2 fun j => by
          by_cases q : j = c + (x : Int)
          · rw [if_pos q, if_pos ⟨by omega, by push_cast; omega⟩, q, show c + (x : Int) - c = (x : Int) by omega]; exact congrArg (fun z => zsh z (24 - 8 * ((x : Int) % 4)) % 256) (fdV_k.2.2.1 (by omega) (by omega))
          · rw [if_neg q]; by_cases q2 : c ≤ j ∧ j < c + (x : Int)
            · rw [if_pos q2, if_pos ⟨by omega, by push_cast; omega⟩]
            · rw [if_neg q2, if_neg (fun z => q2 ⟨z.1, by have := z.2; push_cast at this; omega⟩)]⟩))
        · refine zF_iload_n 48 dX12_feed_47 rfl rfl ?_
          refine zF_goto 76 dX12_feed_48 rfl ?_
          refine zF_istore 78 (ls' := [(7, zI x2), (6, zI ((x : Nat) : Int)), (0, zR hm), (1, zI x1), (2, zI x2), (3, zI x3), (4, zI x4), (5, zI x5)]) dX12_feed_76 rfl (by decide) rfl ?_
          refine zF_aload_n 79 dX12_feed_78 rfl rfl ?_
          refine zF_getR 82 dX12_feed_79 rfl gX12_47 hM2.1 hM2.2.1 (zM_18 hM2).1 ?_
          refine zF_aload_n 83 dX12_feed_82 rfl rfl ?_
          refine zF_getI 86 dX12_feed_83 rfl gX12_339 (by decide) (by decide) hM2.1 hM2.2.1 h19 ?_
          refine zF_iload 88 dX12_feed_86 rfl rfl ?_
          refine zF_bipush 90 dX12_feed_88 rfl (by decide) ?_
          refine zF_bipush 92 dX12_feed_90 rfl (by decide) ?_
          refine zF_iload 94 dX12_feed_92 rfl rfl ?_
          refine zF_iconst 95 dX12_feed_94 rfl ?_
          refine zF_irem 96 dX12_feed_95 rfl (by omega) (by omega) (by omega) (by omega) ?_
          refine zF_imul 97 dX12_feed_96 rfl ?_
          refine zF_isub 98 dX12_feed_97 rfl ?_
          refine zF_ishr 99 dX12_feed_98 rfl ?_
          refine zF_I (b := (zsh x2 (24 - (8 * (((x : Nat) : Int) % 4))))) (rfl) ?_
          refine zF_sipush 102 dX12_feed_99 rfl (by decide) ?_
          refine zF_iand 103 dX12_feed_102 rfl ?_
          refine zF_I (b := ((zsh x2 (24 - (8 * (((x : Nat) : Int) % 4)))) % 256)) (zand255g (by first | assumption | exact zsh_rg _ _)) ?_
          refine zF_iastore 104 dX12_feed_103 rfl (zM_18 hM2).2.2 (zM_18 hM2).2.1 (by omega) (by omega) ?_
          refine zF_aload_n 105 dX12_feed_104 rfl rfl ?_
          refine zF_dup 106 dX12_feed_105 rfl rfl ?_
          refine zF_getI 109 dX12_feed_106 rfl gX12_339 (by decide) (by decide) hM2.1 hM2.2.1 (zMo_AF (j := 18) h19 hM2 (by decide) zMo_h1) ?_
          refine zF_iconst 110 dX12_feed_109 rfl ?_
          refine zF_iadd 111 dX12_feed_110 rfl ?_
          refine zF_putI 114 dX12_feed_111 rfl pX12_feed_339 (Or.inl rfl) hM2.1 hM2.2.1 ?_
          refine zF_iinc 117 (ls' := [(6, zI (((x : Nat) : Int) + 1)), (7, zI x2), (0, zR hm), (1, zI x1), (2, zI x2), (3, zI x3), (4, zI x4), (5, zI x5)]) dX12_feed_114 rfl rfl rfl (by decide) rfl ?_
          refine zF_goto 23 dX12_feed_117 rfl ?_
          exact zF_locs (ls' := [(6, zI (((x + 1) : Nat) : Int)), (0, zR hm), (1, zI x1), (2, zI x2), (3, zI x3), (4, zI x4), (5, zI x5)]) ⟨zlI rfl (by first | rfl | omega | (push_cast; omega) | exact congrArg (_ + ·) (zbT (by assumption)) | exact congrArg (_ + ·) (zbF (by assumption)) | exact congrArg (_ + ·) (zbT (by omega)) | exact congrArg (_ + ·) (zbF (by omega)) | exact congrArg (_ + ·) (if_pos (by omega)).symm | exact congrArg (_ + ·) (if_neg (by omega)).symm | exact (if_pos (by omega)).symm | exact (if_neg (by omega)).symm | exact zsub_s (if_pos (by omega)).symm | exact zsub_s0 (if_neg (by omega)).symm | exact zadd0 (if_neg (by omega)).symm | exact zadd0 (zbF (by omega)) | exact (Int.sub_zero _).symm), rfl, rfl, rfl, rfl, rfl, rfl, trivial⟩ (ih23 (x + 1) _ (by omega) (⟨by omega, (zFr_si (Or.inl ⟨rfl, by decide⟩) (zFr_si (Or.inr rfl) f2)), (zsi_F (by decide) (zMo_AF (j := 18) h5 hM2 (by decide) zMo_h1)), (zsi_same _ _ _ _).trans (by push_cast; omega), mfd_2 hM2 g2 fun j => by
          by_cases q : j = c + (x : Int)
          · rw [if_pos q, if_pos ⟨by omega, by push_cast; omega⟩, q, show c + (x : Int) - c = (x : Int) by omega]; exact congrArg (fun z => zsh z (24 - 8 * ((x : Int) % 4)) % 256) (fdV_k.2.1 (by omega) (by omega))
          · rw [if_neg q]; by_cases q2 : c ≤ j ∧ j < c + (x : Int)
            · rw [if_pos q2, if_pos ⟨by omega, by push_cast; omega⟩]
            · rw [if_neg q2, if_neg (fun z => q2 ⟨z.1, by have := z.2; push_cast at this; omega⟩)]⟩))
      · refine zF_iload_n 37 dX12_feed_36 rfl rfl ?_
        refine zF_goto 76 dX12_feed_37 rfl ?_
        refine zF_istore 78 (ls' := [(7, zI x1), (6, zI ((x : Nat) : Int)), (0, zR hm), (1, zI x1), (2, zI x2), (3, zI x3), (4, zI x4), (5, zI x5)]) dX12_feed_76 rfl (by decide) rfl ?_
        refine zF_aload_n 79 dX12_feed_78 rfl rfl ?_
        refine zF_getR 82 dX12_feed_79 rfl gX12_47 hM2.1 hM2.2.1 (zM_18 hM2).1 ?_
        refine zF_aload_n 83 dX12_feed_82 rfl rfl ?_
        refine zF_getI 86 dX12_feed_83 rfl gX12_339 (by decide) (by decide) hM2.1 hM2.2.1 h19 ?_
        refine zF_iload 88 dX12_feed_86 rfl rfl ?_
        refine zF_bipush 90 dX12_feed_88 rfl (by decide) ?_
        refine zF_bipush 92 dX12_feed_90 rfl (by decide) ?_
        refine zF_iload 94 dX12_feed_92 rfl rfl ?_
        refine zF_iconst 95 dX12_feed_94 rfl ?_
        refine zF_irem 96 dX12_feed_95 rfl (by omega) (by omega) (by omega) (by omega) ?_
        refine zF_imul 97 dX12_feed_96 rfl ?_
        refine zF_isub 98 dX12_feed_97 rfl ?_
        refine zF_ishr 99 dX12_feed_98 rfl ?_
        refine zF_I (b := (zsh x1 (24 - (8 * (((x : Nat) : Int) % 4))))) (rfl) ?_
        refine zF_sipush 102 dX12_feed_99 rfl (by decide) ?_
        refine zF_iand 103 dX12_feed_102 rfl ?_
        refine zF_I (b := ((zsh x1 (24 - (8 * (((x : Nat) : Int) % 4)))) % 256)) (zand255g (by first | assumption | exact zsh_rg _ _)) ?_
        refine zF_iastore 104 dX12_feed_103 rfl (zM_18 hM2).2.2 (zM_18 hM2).2.1 (by omega) (by omega) ?_
        refine zF_aload_n 105 dX12_feed_104 rfl rfl ?_
        refine zF_dup 106 dX12_feed_105 rfl rfl ?_
        refine zF_getI 109 dX12_feed_106 rfl gX12_339 (by decide) (by decide) hM2.1 hM2.2.1 (zMo_AF (j := 18) h19 hM2 (by decide) zMo_h1) ?_
        refine zF_iconst 110 dX12_feed_109 rfl ?_
        refine zF_iadd 111 dX12_feed_110 rfl ?_
        refine zF_putI 114 dX12_feed_111 rfl pX12_feed_339 (Or.inl rfl) hM2.1 hM2.2.1 ?_
        refine zF_iinc 117 (ls' := [(6, zI (((x : Nat) : Int) + 1)), (7, zI x1), (0, zR hm), (1, zI x1), (2, zI x2), (3, zI x3), (4, zI x4), (5, zI x5)]) dX12_feed_114 rfl rfl rfl (by decide) rfl ?_
        refine zF_goto 23 dX12_feed_117 rfl ?_
        exact zF_locs (ls' := [(6, zI (((x + 1) : Nat) : Int)), (0, zR hm), (1, zI x1), (2, zI x2), (3, zI x3), (4, zI x4), (5, zI x5)]) ⟨zlI rfl (by first | rfl | omega | (push_cast; omega) | exact congrArg (_ + ·) (zbT (by assumption)) | exact congrArg (_ + ·) (zbF (by assumption)) | exact congrArg (_ + ·) (zbT (by omega)) | exact congrArg (_ + ·) (zbF (by omega)) | exact congrArg (_ + ·) (if_pos (by omega)).symm | exact congrArg (_ + ·) (if_neg (by omega)).symm | exact (if_pos (by omega)).symm | exact (if_neg (by omega)).symm | exact zsub_s (if_pos (by omega)).symm | exact zsub_s0 (if_neg (by omega)).symm | exact zadd0 (if_neg (by omega)).symm | exact zadd0 (zbF (by omega)) | exact (Int.sub_zero _).symm), rfl, rfl, rfl, rfl, rfl, rfl, trivial⟩ (ih23 (x + 1) _ (by omega) (⟨by omega, (zFr_si (Or.inl ⟨rfl, by decide⟩) (zFr_si (Or.inr rfl) f2)), (zsi_F (by decide) (zMo_AF (j := 18) h5 hM2 (by decide) zMo_h1)), (zsi_same _ _ _ _).trans (by push_cast; omega), mfd_2 hM2 g2 fun j => by
          by_cases q : j = c + (x : Int)
          · rw [if_pos q, if_pos ⟨by omega, by push_cast; omega⟩, q, show c + (x : Int) - c = (x : Int) by omega]; exact congrArg (fun z => zsh z (24 - 8 * ((x : Int) % 4)) % 256) (fdV_k.1 (by omega))
          · rw [if_neg q]; by_cases q2 : c ≤ j ∧ j < c + (x : Int)
            · rw [if_pos q2, if_pos ⟨by omega, by push_cast; omega⟩]
            · rw [if_neg q2, if_neg (fun z => q2 ⟨z.1, by have := z.2; push_cast at this; omega⟩)]⟩))
  · refine zF_iconst 19 dX12_feed_18 rfl ?_
    exact zF_ireturn dX12_feed_19 rfl ((by rw [if_neg (by omega)]; exact ⟨rfl, rfl⟩))
theorem zt_X12_errorPosition (hM : zMo σ hm A) : zE G mX12_errorPosition d [zR hm] σ (fun ro σ1 => ro = .inl (some (zI (zia σ hm ((26 : Nat) : Int)))) ∧ σ1 = zsi σ hm ((5 : Nat) : Int) 0) := by
  refine zE_of rfl (by simp [zcat]) (Nat.le_of_ble_eq_true rfl) ?_
  show zF G mX12_errorPosition d 0 [(0, zR hm)] [] σ _
  refine zF_aload_n 1 dX12_errorPosition_0 rfl rfl ?_
  refine zF_iconst 2 dX12_errorPosition_1 rfl ?_
  refine zF_putI 5 dX12_errorPosition_2 rfl pX12_errorPosition_89 (Or.inl rfl) hM.1 hM.2.1 ?_
  refine zF_aload_n 6 dX12_errorPosition_5 rfl rfl ?_
  refine zF_getI 9 dX12_errorPosition_6 rfl gX12_50 (by decide) (by decide) hM.1 hM.2.1 (zsi_F (by decide) rfl) ?_
  exact zF_ireturn dX12_errorPosition_9 rfl (⟨rfl, rfl⟩)
theorem zt_X12_formattedByte {k : Int} (hM : zMo σ hm A) (hw : mWr σ hm A l) (hl : l.length ≤ 40) (zk : zrg k) : zE G mX12_formattedByte (d + 6) [zR hm, zI k] σ (fun ro σ1 => ro = .inl (some (zI (fmB l k))) ∧ σ1 = zsi σ hm ((5 : Nat) : Int) 0) := by
  refine zE_of rfl (by simp [zcat]) (Nat.le_of_ble_eq_true rfl) ?_
  show zF G mX12_formattedByte (d + 6) 0 [(0, zR hm), (1, zI k)] [] σ _
  refine zF_aload_n 1 dX12_formattedByte_0 rfl rfl ?_
  refine zF_iconst 2 dX12_formattedByte_1 rfl ?_
  refine zF_putI 5 dX12_formattedByte_2 rfl pX12_formattedByte_89 (Or.inl rfl) hM.1 hM.2.1 ?_
  refine zF_iload_n 6 dX12_formattedByte_5 rfl rfl ?_
  refine zF_iconst 7 dX12_formattedByte_6 rfl ?_
  refine zF_aload_n 8 dX12_formattedByte_7 rfl rfl ?_
  refine zF_getI 11 dX12_formattedByte_8 rfl gX12_311 (by decide) (by decide) hM.1 hM.2.1 (zsi_F (by decide) hw.1) ?_
  refine zF_iconst 12 dX12_formattedByte_11 rfl ?_
  refine zF_isub 13 dX12_formattedByte_12 rfl ?_
  refine zF_callSi 16 (d2 := (d + 5)) (as := [zI k, zI 0, zI ((l.length : Int) - 1)]) dX12_formattedByte_13 rfl kX12_109 sX12_inRange (Nat.le_refl _) rfl rfl (Nat.le_of_ble_eq_true rfl) (zt_X12_inRange (by first | decide | assumption | (constructor <;> omega)) (by first | decide | assumption | (constructor <;> omega)) (by first | decide | assumption | (constructor <;> omega))) ?_
  refine zF_ifb_eq 28 19 dX12_formattedByte_16 rfl rfl (fun c1 => ?_) (fun c1 => ?_)
  · refine zF_iconst 29 dX12_formattedByte_28 rfl ?_
    exact zF_ireturn dX12_formattedByte_29 rfl (⟨congrArg (fun z => Sum.inl (some (zI z))) (by unfold fmB; rw [if_neg (by omega)]), rfl⟩)
  · have hk0 : 0 ≤ k ∧ k < (l.length : Int) := by omega
    have h16 : zia (zsi σ hm ((5 : Nat) : Int) 0) (A 16) k = l.getD k.toNat 0 := by
            rw [congrFun (zMo_hN (k := 16) (j := ((5 : Nat) : Int)) (v := 0) rfl hM (by decide) zMo_h1) k]
            have := hw.2 k.toNat (by omega)
            rw [show ((k.toNat : Nat) : Int) = k by omega] at this; exact this
    refine zF_aload_n 20 dX12_formattedByte_19 rfl rfl ?_
    refine zF_getR 23 dX12_formattedByte_20 rfl gX12_44 hM.1 hM.2.1 (zM_16 hM).1 ?_
    refine zF_iload_n 24 dX12_formattedByte_23 rfl rfl ?_
    refine zF_iaload 25 dX12_formattedByte_24 rfl (zM_16 hM).2.2 (zM_16 hM).2.1 (by omega) (by omega) h16 ?_
    refine zF_goto 29 dX12_formattedByte_25 rfl ?_
    exact zF_ireturn dX12_formattedByte_29 rfl (⟨congrArg (fun z => Sum.inl (some (zI z))) (by unfold fmB; rw [if_pos (by omega)]), rfl⟩)
end ZFM

/-! the text fed -/
section ZFD
/-- one byte of a number, the top one at shift 24 -/
def zsh (v s : Int) : Int := (Int32.ofInt v >>> (Int32.ofInt s &&& 31)).toInt
theorem zsh_rg (v s : Int) : zrg (zsh v s) := by
  have a := Int32.le_toInt (Int32.ofInt v >>> (Int32.ofInt s &&& 31))
  have b := Int32.toInt_lt (Int32.ofInt v >>> (Int32.ofInt s &&& 31))
  constructor
  · exact a
  · have : zsh v s < 2147483648 := b
    omega
variable {G : zG} {d : Nat} {σ σ0 : zMem} {B : Nat → Nat}
/-- the byte at place j of twenty, of five numbers -/
def fdV (a b c e f : Int) (j : Int) : Int := if j < 4 then a else if j < 8 then b else if j < 12 then c else if j < 16 then e else f
def fdT (a b c e f : Int) (j : Int) : Int := zsh (fdV a b c e f j) (24 - 8 * (j % 4))
/-- what an append writes -/
def PBf (B : Nat → Nat) (h : Nat) (j : Int) : Prop := (h = B 0 ∧ j = 1) ∨ h = B 10
theorem fd_1 (hi : ∀ i j, B i = B j → i = j) {i v x : Int} (h : zia σ (B 0) ((1 : Nat) : Int) = x) : zia (zsi σ (B 10) i v) (B 0) ((1 : Nat) : Int) = x := by
  rw [zia_si, if_neg (fun q => absurd (hi _ _ q.1) (by decide))]; exact h
theorem fd_2 (hi : ∀ i j, B i = B j → i = j) {i v w : Int} {g g' : Int → Int} (h : ∀ j, zia σ (B 10) j = g j) (e : ∀ j, g' j = if j = i then v else g j) : ∀ j, zia (zsi (zsi σ (B 10) i v) (B 0) ((1 : Nat) : Int) w) (B 10) j = g' j := fun j => by
  rw [zia_si, if_neg (fun q => absurd (hi _ _ q.1) (by decide)), zia_si, e]
  by_cases q : j = i
  · rw [if_pos ⟨rfl, q⟩, if_pos q]
  · rw [if_neg (fun z => q z.2), if_neg q, h]
theorem fd_all {x1 x2 x3 x4 x5 c j z : Int} : (if c + 16 ≤ j ∧ j < c + 16 + 4 then zby (zsh x5 (24 - 8 * (j - (c + 16)))) else if c + 12 ≤ j ∧ j < c + 12 + 4 then zby (zsh x4 (24 - 8 * (j - (c + 12)))) else if c + 8 ≤ j ∧ j < c + 8 + 4 then zby (zsh x3 (24 - 8 * (j - (c + 8)))) else if c + 4 ≤ j ∧ j < c + 4 + 4 then zby (zsh x2 (24 - 8 * (j - (c + 4)))) else if c ≤ j ∧ j < c + 4 then zby (zsh x1 (24 - 8 * (j - c))) else z) = (if c ≤ j ∧ j < c + 20 then zby (fdT x1 x2 x3 x4 x5 (j - c)) else z) := by
  by_cases h : c ≤ j ∧ j < c + 20
  · rw [if_pos h]
    unfold fdT fdV
    by_cases h1 : j - c < 4
    · rw [if_neg (by omega), if_neg (by omega), if_neg (by omega), if_neg (by omega), if_pos (by omega), if_pos h1, show (j - c) % 4 = j - c by omega]
    · by_cases h2 : j - c < 8
      · rw [if_neg (by omega), if_neg (by omega), if_neg (by omega), if_pos (by omega), if_neg h1, if_pos h2, show (j - c) % 4 = j - (c + 4) by omega]
      · by_cases h3 : j - c < 12
        · rw [if_neg (by omega), if_neg (by omega), if_pos (by omega), if_neg h1, if_neg h2, if_pos h3, show (j - c) % 4 = j - (c + 8) by omega]
        · by_cases h4 : j - c < 16
          · rw [if_neg (by omega), if_pos (by omega), if_neg h1, if_neg h2, if_neg h3, if_pos h4, show (j - c) % 4 = j - (c + 12) by omega]
          · rw [if_pos (by omega), if_neg h1, if_neg h2, if_neg h3, if_neg h4, show (j - c) % 4 = j - (c + 16) by omega]
  · rw [if_neg h, if_neg (by omega), if_neg (by omega), if_neg (by omega), if_neg (by omega), if_neg (by omega)]
theorem zt_X11_append {v c : Int} (hO : cO σ B) (hk : zkd σ (B 10) = (2, 700)) (hl : B 10 < zn σ) (hc : zia σ (B 0) ((1 : Nat) : Int) = c) (c0 : 0 ≤ c) (c1 : c + 4 ≤ 700) (zv : zrg v) : zE G mX11_append (d + 5) [zR (B 0), zI v] σ (fun ro σ1 => ro = .inl none ∧ zFr (PBf B) σ σ1 ∧ zia σ1 (B 0) ((1 : Nat) : Int) = c + 4 ∧ ∀ j, zia σ1 (B 10) j = (if c ≤ j ∧ j < c + 4 then zby (zsh v (24 - 8 * (j - c))) else zia σ (B 10) j)) := by
  refine zE_of rfl (by simp [zcat]) (Nat.le_of_ble_eq_true rfl) ?_
  show zF G mX11_append (d + 5) 0 [(0, zR (B 0)), (1, zI v)] [] σ _
  have hi := hO.1.2.2.2
  refine zF_bipush 2 dX11_append_0 rfl (by decide) ?_
  refine zF_istore_n 3 (ls' := [(2, zI 24), (0, zR (B 0)), (1, zI v)]) dX11_append_2 rfl (by decide) rfl ?_
  refine zF_locs (ls' := [(2, zI (24 - 8 * ((0 : Nat) : Int))), (0, zR (B 0)), (1, zI v)]) ⟨zlI rfl (by first | rfl | omega | (push_cast; omega) | exact congrArg (_ + ·) (zbT (by assumption)) | exact congrArg (_ + ·) (zbF (by assumption)) | exact congrArg (_ + ·) (zbT (by omega)) | exact congrArg (_ + ·) (zbF (by omega)) | exact congrArg (_ + ·) (if_pos (by omega)).symm | exact congrArg (_ + ·) (if_neg (by omega)).symm | exact (if_pos (by omega)).symm | exact (if_neg (by omega)).symm | exact zsub_s (if_pos (by omega)).symm | exact zsub_s0 (if_neg (by omega)).symm | exact zadd0 (if_neg (by omega)).symm | exact zadd0 (zbF (by omega)) | exact (Int.sub_zero _).symm), rfl, rfl, trivial⟩ ?_
  refine zF_while (X := Nat) (fun x => 4 - x) (fun x σ2 => x ≤ 4 ∧ zFr (PBf B) σ σ2 ∧ zia σ2 (B 0) ((1 : Nat) : Int) = c + (x : Int) ∧ ∀ j, zia σ2 (B 10) j = (if c ≤ j ∧ j < c + (x : Int) then zby (zsh v (24 - 8 * (j - c))) else zia σ (B 10) j)) (fun x => [(2, zI (24 - 8 * ((x : Nat) : Int))), (0, zR (B 0)), (1, zI v)]) ?_ 0 σ (⟨by omega, zFr.rf, hc.trans (by omega), fun j => by rw [if_neg (by omega)]⟩)
  intro x σ2 hI3 ih3
  show zF G mX11_append (d + 5) 3 [(2, zI (24 - 8 * ((x : Nat) : Int))), (0, zR (B 0)), (1, zI v)] [] σ2 _
  obtain ⟨hx, f2, h12, g2⟩ := hI3
  have hO2 := cO_fr hO f2
  have hk2 : zkd σ2 (B 10) = (2, 700) := by rw [f2.2.1]; exact hk
  have hl2 : B 10 < zn σ2 := by rw [f2.1]; exact hl
  have hx4 : x ≤ 4 := hx
  refine zF_iload_n 4 dX11_append_3 rfl rfl ?_
  refine zF_if_lt 46 7 dX11_append_4 rfl rfl (by first | decide | assumption | exact zsh_rg _ _ | (constructor <;> omega)) (fun c1 => ?_) (fun c1 => ?_)
  · exact zF_return dX11_append_46 rfl ((by
    have hx9 : x = 4 := by omega
    subst hx9
    exact ⟨rfl, f2, h12, g2⟩))
  · refine zF_aload_n 8 dX11_append_7 rfl rfl ?_
    refine zF_getI 11 dX11_append_8 rfl gX11_100 (by decide) (by decide) hO2.2.1 hO2.2.2.1 h12 ?_
    refine zF_sipush 14 dX11_append_11 rfl (by decide) ?_
    refine zF_icmp_ge 40 17 dX11_append_14 rfl rfl (by first | decide | assumption | exact zsh_rg _ _ | (constructor <;> omega)) (by first | decide | assumption | exact zsh_rg _ _ | (constructor <;> omega)) (fun c2 => ?_) (fun c2 => ?_)
    · exact absurd c2 (by omega)
    · refine zF_aload_n 18 dX11_append_17 rfl rfl ?_
      refine zF_getR 21 dX11_append_18 rfl gX11_9 hO2.2.1 hO2.2.2.1 hO2.2.2.2.1 ?_
      refine zF_aload_n 22 dX11_append_21 rfl rfl ?_
      refine zF_getI 25 dX11_append_22 rfl gX11_100 (by decide) (by decide) hO2.2.1 hO2.2.2.1 h12 ?_
      refine zF_iload_n 26 dX11_append_25 rfl rfl ?_
      refine zF_iload_n 27 dX11_append_26 rfl rfl ?_
      refine zF_ishr 28 dX11_append_27 rfl ?_
      refine zF_I (b := (zsh v (24 - 8 * ((x : Nat) : Int)))) (rfl) ?_
      refine zF_i2by 29 dX11_append_28 rfl (by first | decide | assumption | exact zsh_rg _ _ | (constructor <;> omega)) ?_
      refine zF_bastore 30 dX11_append_29 rfl hk2 hl2 (by omega) (by omega) (by have := zby_b (zsh v (24 - 8 * (x : Int))); omega) ?_
      refine zF_aload_n 31 dX11_append_30 rfl rfl ?_
      refine zF_dup 32 dX11_append_31 rfl rfl ?_
      refine zF_getI 35 dX11_append_32 rfl gX11_100 (by decide) (by decide) hO2.2.1 hO2.2.2.1 (fd_1 hi h12) ?_
      refine zF_iconst 36 dX11_append_35 rfl ?_
      refine zF_iadd 37 dX11_append_36 rfl ?_
      refine zF_putI 40 dX11_append_37 rfl pX11_append_100 (Or.inl rfl) hO2.2.1 hO2.2.2.1 ?_
      refine zF_iinc 43 (ls' := [(2, zI ((24 - 8 * ((x : Nat) : Int)) + (-8))), (0, zR (B 0)), (1, zI v)]) dX11_append_40 rfl rfl rfl (by decide) rfl ?_
      refine zF_goto 3 dX11_append_43 rfl ?_
      exact zF_locs (ls' := [(2, zI (24 - 8 * (((x + 1) : Nat) : Int))), (0, zR (B 0)), (1, zI v)]) ⟨zlI rfl (by first | rfl | omega | (push_cast; omega) | exact congrArg (_ + ·) (zbT (by assumption)) | exact congrArg (_ + ·) (zbF (by assumption)) | exact congrArg (_ + ·) (zbT (by omega)) | exact congrArg (_ + ·) (zbF (by omega)) | exact congrArg (_ + ·) (if_pos (by omega)).symm | exact congrArg (_ + ·) (if_neg (by omega)).symm | exact (if_pos (by omega)).symm | exact (if_neg (by omega)).symm | exact zsub_s (if_pos (by omega)).symm | exact zsub_s0 (if_neg (by omega)).symm | exact zadd0 (if_neg (by omega)).symm | exact zadd0 (zbF (by omega)) | exact (Int.sub_zero _).symm), rfl, rfl, trivial⟩ (ih3 (x + 1) _ (by omega) (⟨by omega, zFr_si (Or.inl ⟨rfl, rfl⟩) (zFr_si (Or.inr rfl) f2), (zsi_same _ _ _ _).trans (by push_cast; omega), fd_2 hi g2 fun j => by
          by_cases q : j = c + (x : Int)
          · rw [if_pos q, if_pos ⟨by omega, by push_cast; omega⟩, q, show c + (x : Int) - c = (x : Int) by omega]
          · rw [if_neg q]; by_cases q2 : c ≤ j ∧ j < c + (x : Int)
            · rw [if_pos q2, if_pos ⟨by omega, by push_cast; omega⟩]
            · rw [if_neg q2, if_neg (fun z => q2 ⟨z.1, by have := z.2; push_cast at this; omega⟩)]⟩))
theorem zt_X11_feed {x1 x2 x3 x4 x5 c : Int} (hO : cO σ B) (hk : zkd σ (B 10) = (2, 700)) (hl : B 10 < zn σ) (hc : zia σ (B 0) ((1 : Nat) : Int) = c) (c0 : 0 ≤ c) (c1 : c ≤ 700) (z1 : zrg x1) (z2 : zrg x2) (z3 : zrg x3) (z4 : zrg x4) (z5 : zrg x5) : zE G mX11_feed (d + 6) [zR (B 0), zI x1, zI x2, zI x3, zI x4, zI x5] σ (fun ro σ1 => if c + 20 ≤ 700 then ro = .inl (some (zI (c + 20))) ∧ zFr (PBf B) σ σ1 ∧ zia σ1 (B 0) ((1 : Nat) : Int) = c + 20 ∧ ∀ j, zia σ1 (B 10) j = (if c ≤ j ∧ j < c + 20 then zby (fdT x1 x2 x3 x4 x5 (j - c)) else zia σ (B 10) j) else ro = .inl (some (zI (-1))) ∧ σ1 = σ) := by
  refine zE_of rfl (by simp [zcat]) (Nat.le_of_ble_eq_true rfl) ?_
  show zF G mX11_feed (d + 6) 0 [(0, zR (B 0)), (1, zI x1), (2, zI x2), (3, zI x3), (4, zI x4), (5, zI x5)] [] σ _
  refine zF_aload_n 1 dX11_feed_0 rfl rfl ?_
  refine zF_getI 4 dX11_feed_1 rfl gX11_100 (by decide) (by decide) hO.2.1 hO.2.2.1 hc ?_
  refine zF_bipush 6 dX11_feed_4 rfl (by decide) ?_
  refine zF_iadd 7 dX11_feed_6 rfl ?_
  refine zF_sipush 10 dX11_feed_7 rfl (by decide) ?_
  refine zF_icmp_le 15 13 dX11_feed_10 rfl rfl (by first | decide | assumption | (constructor <;> omega)) (by first | decide | assumption | (constructor <;> omega)) (fun c1 => ?_) (fun c1 => ?_)
  · refine zF_aload_n 16 dX11_feed_15 rfl rfl ?_
    refine zF_iload_n 17 dX11_feed_16 rfl rfl ?_
    refine zF_callV 20 (d2 := (d + 5)) (as := [zI x1]) dX11_feed_17 rfl kX11_103 iX11_append (ci := 11) rfl eX11_append (Nat.le_refl _) hO.2.1 hO.2.2.1 rfl rfl (Nat.le_of_ble_eq_true rfl) (zE.mono (zt_X11_append hO hk hl hc (by omega) (by omega) (by first | decide | assumption | (constructor <;> omega))) fun ro σa1 hh1 => ?_)
    obtain ⟨er1, fr1, p1⟩ := hh1
    subst er1
    refine ⟨fr1.1, ?_⟩
    show zF G mX11_feed (d + 6) 20 [(0, zR (B 0)), (1, zI x1), (2, zI x2), (3, zI x3), (4, zI x4), (5, zI x5)] [] σa1 _
    have hOa1 := cO_fr hO fr1
    have hBa1 := hOa1.1
    have hka1 : zkd σa1 (B 10) = (2, 700) := by rw [fr1.2.1]; exact hk
    have hla1 : B 10 < zn σa1 := by rw [fr1.1]; exact hl
    have hc1x : zia σa1 (B 0) ((1 : Nat) : Int) = c + 4 := p1.1.trans (by omega)
    have gx1 := p1.2
    refine zF_aload_n 21 dX11_feed_20 rfl rfl ?_
    refine zF_iload_n 22 dX11_feed_21 rfl rfl ?_
    refine zF_callV 25 (d2 := (d + 5)) (as := [zI x2]) dX11_feed_22 rfl kX11_103 iX11_append (ci := 11) rfl eX11_append (Nat.le_refl _) hOa1.2.1 hOa1.2.2.1 rfl rfl (Nat.le_of_ble_eq_true rfl) (zE.mono (zt_X11_append hOa1 hka1 hla1 hc1x (by omega) (by omega) (by first | decide | assumption | (constructor <;> omega))) fun ro σa2 hh2 => ?_)
    obtain ⟨er2, fr2, p2⟩ := hh2
    subst er2
    refine ⟨fr2.1, ?_⟩
    show zF G mX11_feed (d + 6) 25 [(0, zR (B 0)), (1, zI x1), (2, zI x2), (3, zI x3), (4, zI x4), (5, zI x5)] [] σa2 _
    have hOa2 := cO_fr hOa1 fr2
    have hBa2 := hOa2.1
    have hka2 : zkd σa2 (B 10) = (2, 700) := by rw [fr2.2.1]; exact hka1
    have hla2 : B 10 < zn σa2 := by rw [fr2.1]; exact hla1
    have hc2x : zia σa2 (B 0) ((1 : Nat) : Int) = c + 8 := p2.1.trans (by omega)
    have gx2 := p2.2
    refine zF_aload_n 26 dX11_feed_25 rfl rfl ?_
    refine zF_iload_n 27 dX11_feed_26 rfl rfl ?_
    refine zF_callV 30 (d2 := (d + 5)) (as := [zI x3]) dX11_feed_27 rfl kX11_103 iX11_append (ci := 11) rfl eX11_append (Nat.le_refl _) hOa2.2.1 hOa2.2.2.1 rfl rfl (Nat.le_of_ble_eq_true rfl) (zE.mono (zt_X11_append hOa2 hka2 hla2 hc2x (by omega) (by omega) (by first | decide | assumption | (constructor <;> omega))) fun ro σa3 hh3 => ?_)
    obtain ⟨er3, fr3, p3⟩ := hh3
    subst er3
    refine ⟨fr3.1, ?_⟩
    show zF G mX11_feed (d + 6) 30 [(0, zR (B 0)), (1, zI x1), (2, zI x2), (3, zI x3), (4, zI x4), (5, zI x5)] [] σa3 _
    have hOa3 := cO_fr hOa2 fr3
    have hBa3 := hOa3.1
    have hka3 : zkd σa3 (B 10) = (2, 700) := by rw [fr3.2.1]; exact hka2
    have hla3 : B 10 < zn σa3 := by rw [fr3.1]; exact hla2
    have hc3x : zia σa3 (B 0) ((1 : Nat) : Int) = c + 12 := p3.1.trans (by omega)
    have gx3 := p3.2
    refine zF_aload_n 31 dX11_feed_30 rfl rfl ?_
    refine zF_iload 33 dX11_feed_31 rfl rfl ?_
    refine zF_callV 36 (d2 := (d + 5)) (as := [zI x4]) dX11_feed_33 rfl kX11_103 iX11_append (ci := 11) rfl eX11_append (Nat.le_refl _) hOa3.2.1 hOa3.2.2.1 rfl rfl (Nat.le_of_ble_eq_true rfl) (zE.mono (zt_X11_append hOa3 hka3 hla3 hc3x (by omega) (by omega) (by first | decide | assumption | (constructor <;> omega))) fun ro σa4 hh4 => ?_)
    obtain ⟨er4, fr4, p4⟩ := hh4
    subst er4
    refine ⟨fr4.1, ?_⟩
    show zF G mX11_feed (d + 6) 36 [(0, zR (B 0)), (1, zI x1), (2, zI x2), (3, zI x3), (4, zI x4), (5, zI x5)] [] σa4 _
    have hOa4 := cO_fr hOa3 fr4
    have hBa4 := hOa4.1
    have hka4 : zkd σa4 (B 10) = (2, 700) := by rw [fr4.2.1]; exact hka3
    have hla4 : B 10 < zn σa4 := by rw [fr4.1]; exact hla3
    have hc4x : zia σa4 (B 0) ((1 : Nat) : Int) = c + 16 := p4.1.trans (by omega)
    have gx4 := p4.2
    refine zF_aload_n 37 dX11_feed_36 rfl rfl ?_
    refine zF_iload 39 dX11_feed_37 rfl rfl ?_
    refine zF_callV 42 (d2 := (d + 5)) (as := [zI x5]) dX11_feed_39 rfl kX11_103 iX11_append (ci := 11) rfl eX11_append (Nat.le_refl _) hOa4.2.1 hOa4.2.2.1 rfl rfl (Nat.le_of_ble_eq_true rfl) (zE.mono (zt_X11_append hOa4 hka4 hla4 hc4x (by omega) (by omega) (by first | decide | assumption | (constructor <;> omega))) fun ro σa5 hh5 => ?_)
    obtain ⟨er5, fr5, p5⟩ := hh5
    subst er5
    refine ⟨fr5.1, ?_⟩
    show zF G mX11_feed (d + 6) 42 [(0, zR (B 0)), (1, zI x1), (2, zI x2), (3, zI x3), (4, zI x4), (5, zI x5)] [] σa5 _
    have hOa5 := cO_fr hOa4 fr5
    have hBa5 := hOa5.1
    have hka5 : zkd σa5 (B 10) = (2, 700) := by rw [fr5.2.1]; exact hka4
    have hla5 : B 10 < zn σa5 := by rw [fr5.1]; exact hla4
    have hc5x : zia σa5 (B 0) ((1 : Nat) : Int) = c + 20 := p5.1.trans (by omega)
    have gx5 := p5.2
    refine zF_aload_n 43 dX11_feed_42 rfl rfl ?_
    refine zF_getI 46 dX11_feed_43 rfl gX11_100 (by decide) (by decide) hOa5.2.1 hOa5.2.2.1 hc5x ?_
    exact zF_ireturn dX11_feed_46 rfl ((by rw [if_pos (by omega)]; exact ⟨rfl, ((((fr1.tr fr2).tr fr3).tr fr4).tr fr5), hc5x, fun j => by rw [gx5, gx4, gx3, gx2, gx1]; exact fd_all⟩))
  · refine zF_iconst 14 dX11_feed_13 rfl ?_
    exact zF_ireturn dX11_feed_14 rfl ((by rw [if_neg (by omega)]; exact ⟨rfl, rfl⟩))
end ZFD

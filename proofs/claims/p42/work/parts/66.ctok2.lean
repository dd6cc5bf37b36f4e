/-! the class: tokens taken -/
section ZTD
variable {G : zG} {d : Nat} {σ σ0 : zMem} {B : Nat → Nat} {t : Int → Int} {L : Nat} {s : tS}
theorem zt_X9_adv (hT : cTk σ B t L) (hs : cTs σ B t L s) (he : s.2 = 0) : zE G mX9_advance d [zR (B 20)] σ (fun ro σ1 => ro = .inl none ∧ zFr (PTk B) σ σ1 ∧ cTs σ1 B t L (tAdv t L s)) := by
  have b := te_b (t := t) hs.1
  have e : tAdv t L s = (te t L s.1, 0) := if_pos he
  refine (zt_X9_advance (q := te t L s.1) hT b.2.1 hs.2.1 hs.2.2.1).mono fun r σ1 h => ⟨h.1, PAd.tk h.2.1, ?_⟩
  obtain ⟨-, f, f2, f3, f4, f5⟩ := h
  rw [e]
  exact ⟨b.2.1, PAd_o f (by omega) hs.2.1, f2, f3, f4, f5, (PAd_o f (by omega) hs.2.2.2.2.2.2.1).trans he, (PAd_o f (by omega) hs.2.2.2.2.2.2.2.1).trans (if_pos he), Int.le_refl _, by show (0 : Int) ≤ 100; decide⟩
theorem zt_X9_fail {c : Int} (hT : cTk σ B t L) (hs : cTs σ B t L s) (c0 : 0 < c) (c1 : c ≤ 99) : zE G mX9_fail d [zR (B 20), zI c] σ (fun ro σ1 => ro = .inl none ∧ zFr (PTk B) σ σ1 ∧ cTs σ1 B t L (tFail c s)) := by
  refine zE_of rfl (by simp [zcat]) (Nat.le_of_ble_eq_true rfl) ?_
  show zF G mX9_fail d 0 [(0, zR (B 20)), (1, zI c)] [] σ _
  have hL7 : L ≤ 700 := hT.2.2.2.2.2.2.1
  have hb := hT.b
  have ts1 := hs.1
  have te2 := te_b (t := t) hs.1
  have tb2 := tbg_b (t := t) hs.1
  have kb := tk_b t L s.1
  have vb := tv_bd (t := t) hb hs.1
  have eb := hs.2.2.2.2.2.2.2.2
  have kd0 : tKd t L s = 0 ∨ tKd t L s = tk t L s.1 := by unfold tKd; split; exact Or.inr rfl; exact Or.inl rfl
  refine zF_aload_n 1 dX9_fail_0 rfl rfl ?_
  refine zF_getI 4 dX9_fail_1 rfl gX9_28 (by decide) (by decide) hT.1 hT.2.1 hs.2.2.2.2.2.2.1 ?_
  refine zF_if_ne 20 7 dX9_fail_4 rfl rfl (by first | decide | assumption | (constructor <;> omega)) (fun c1 => ?_) (fun c1 => ?_)
  · refine zF_aload_n 21 dX9_fail_20 rfl rfl ?_
    refine zF_iconst 22 dX9_fail_21 rfl ?_
    refine zF_putI 25 dX9_fail_22 rfl pX9_fail_40 (Or.inl rfl) hT.1 hT.2.1 ?_
    exact zF_return dX9_fail_25 rfl ((by
    have e : tFail c s = s := if_neg (by assumption)
    rw [e]
    exact ⟨rfl, (zFr_si ⟨rfl, by decide⟩ zFr.rf), hs.1, (zsi_F (by decide) hs.2.1), (zsi_F (by decide) hs.2.2.1), (zsi_F (by decide) hs.2.2.2.1), (zsi_same _ _ _ _).trans (if_neg (by assumption)).symm, (zsi_F (by decide) hs.2.2.2.2.2.1), (zsi_F (by decide) hs.2.2.2.2.2.2.1), (zsi_F (by decide) hs.2.2.2.2.2.2.2.1), eb.1, eb.2⟩))
  · refine zF_aload_n 8 dX9_fail_7 rfl rfl ?_
    refine zF_iload_n 9 dX9_fail_8 rfl rfl ?_
    refine zF_putI 12 dX9_fail_9 rfl pX9_fail_28 (Or.inl rfl) hT.1 hT.2.1 ?_
    refine zF_aload_n 13 dX9_fail_12 rfl rfl ?_
    refine zF_aload_n 14 dX9_fail_13 rfl rfl ?_
    refine zF_getI 17 dX9_fail_14 rfl gX9_37 (by decide) (by decide) hT.1 hT.2.1 (zsi_F (by decide) hs.2.2.2.1) ?_
    refine zF_putI 20 dX9_fail_17 rfl pX9_fail_31 (Or.inl rfl) hT.1 hT.2.1 ?_
    refine zF_aload_n 21 dX9_fail_20 rfl rfl ?_
    refine zF_iconst 22 dX9_fail_21 rfl ?_
    refine zF_putI 25 dX9_fail_22 rfl pX9_fail_40 (Or.inl rfl) hT.1 hT.2.1 ?_
    exact zF_return dX9_fail_25 rfl ((by
    have e : tFail c s = (s.1, c) := if_pos (by omega)
    rw [e]
    exact ⟨rfl, (zFr_si ⟨rfl, by decide⟩ (zFr_si ⟨rfl, by decide⟩ (zFr_si ⟨rfl, by decide⟩ zFr.rf))), hs.1, (zsi_F (by decide) (zsi_F (by decide) (zsi_F (by decide) hs.2.1))), (zsi_F (by decide) (zsi_F (by decide) (zsi_F (by decide) hs.2.2.1))), (zsi_F (by decide) (zsi_F (by decide) (zsi_F (by decide) hs.2.2.2.1))), (zsi_same _ _ _ _).trans (if_neg (by show ¬ c = 0; omega)).symm, (zsi_F (by decide) (zsi_F (by decide) (zsi_F (by decide) hs.2.2.2.2.2.1))), (zsi_F (by decide) (zsi_F (by decide) (zsi_same _ _ _ _))), (zsi_F (by decide) (zsi_same _ _ _ _)).trans (if_neg (by show ¬ c = 0; omega)).symm, by show 0 ≤ c; omega, by show c ≤ 100; omega⟩))
theorem zt_X9_isSign {c : Int} (hT : cTk σ B t L) (hs : cTs σ B t L s) (hc : zrg c) : zP1 G mX9_isSign d [zR (B 20), zI c] σ (zb (tSg t L c s)) := by
  refine zE_of rfl (by simp [zcat]) (Nat.le_of_ble_eq_true rfl) ?_
  show zF G mX9_isSign d 0 [(0, zR (B 20)), (1, zI c)] [] σ _
  have hL7 : L ≤ 700 := hT.2.2.2.2.2.2.1
  have hb := hT.b
  have ts1 := hs.1
  have te2 := te_b (t := t) hs.1
  have tb2 := tbg_b (t := t) hs.1
  have kb := tk_b t L s.1
  have vb := tv_bd (t := t) hb hs.1
  have eb := hs.2.2.2.2.2.2.2.2
  have kd0 : tKd t L s = 0 ∨ tKd t L s = tk t L s.1 := by unfold tKd; split; exact Or.inr rfl; exact Or.inl rfl
  refine zF_aload_n 1 dX9_isSign_0 rfl rfl ?_
  refine zF_getI 4 dX9_isSign_1 rfl gX9_40 (by decide) (by decide) hT.1 hT.2.1 hs.2.2.2.2.1 ?_
  refine zF_iconst 5 dX9_isSign_4 rfl ?_
  refine zF_icmp_ne 20 8 dX9_isSign_5 rfl rfl (by first | decide | assumption | (constructor <;> omega)) (by first | decide | assumption | (constructor <;> omega)) (fun c1 => ?_) (fun c1 => ?_)
  · refine zF_iconst 21 dX9_isSign_20 rfl ?_
    exact zF_zretP dX9_isSign_21 rfl (by decide) (by first | exact zbT ⟨by omega, by omega⟩ | exact zbF (fun z => by have z1 := z.1; have z2 := z.2; omega))
  · refine zF_aload_n 9 dX9_isSign_8 rfl rfl ?_
    refine zF_getI 12 dX9_isSign_9 rfl gX9_43 (by decide) (by decide) hT.1 hT.2.1 hs.2.2.2.2.2.1 ?_
    refine zF_iload_n 13 dX9_isSign_12 rfl rfl ?_
    refine zF_icmp_ne 20 16 dX9_isSign_13 rfl rfl (by first | decide | assumption | (constructor <;> omega)) (by first | decide | assumption | (constructor <;> omega)) (fun c2 => ?_) (fun c2 => ?_)
    · refine zF_iconst 21 dX9_isSign_20 rfl ?_
      exact zF_zretP dX9_isSign_21 rfl (by decide) (by first | exact zbT ⟨by omega, by omega⟩ | exact zbF (fun z => by have z1 := z.1; have z2 := z.2; omega))
    · refine zF_iconst 17 dX9_isSign_16 rfl ?_
      refine zF_goto 21 dX9_isSign_17 rfl ?_
      exact zF_zretP dX9_isSign_21 rfl (by decide) (by first | exact zbT ⟨by omega, by omega⟩ | exact zbF (fun z => by have z1 := z.1; have z2 := z.2; omega))
theorem zt_X9_failed  (hT : cTk σ B t L) (hs : cTs σ B t L s) : zP1 G mX9_failed d [zR (B 20)] σ (zb (s.2 ≠ 0)) := by
  refine zE_of rfl (by simp [zcat]) (Nat.le_of_ble_eq_true rfl) ?_
  show zF G mX9_failed d 0 [(0, zR (B 20))] [] σ _
  have hL7 : L ≤ 700 := hT.2.2.2.2.2.2.1
  have hb := hT.b
  have ts1 := hs.1
  have te2 := te_b (t := t) hs.1
  have tb2 := tbg_b (t := t) hs.1
  have kb := tk_b t L s.1
  have vb := tv_bd (t := t) hb hs.1
  have eb := hs.2.2.2.2.2.2.2.2
  have kd0 : tKd t L s = 0 ∨ tKd t L s = tk t L s.1 := by unfold tKd; split; exact Or.inr rfl; exact Or.inl rfl
  refine zF_aload_n 1 dX9_failed_0 rfl rfl ?_
  refine zF_getI 4 dX9_failed_1 rfl gX9_28 (by decide) (by decide) hT.1 hT.2.1 hs.2.2.2.2.2.2.1 ?_
  refine zF_if_eq 11 7 dX9_failed_4 rfl rfl (by first | decide | assumption | (constructor <;> omega)) (fun c1 => ?_) (fun c1 => ?_)
  · refine zF_iconst 12 dX9_failed_11 rfl ?_
    exact zF_zretP dX9_failed_12 rfl (by decide) (by first | exact zbT (by omega) | exact zbF (by omega))
  · refine zF_iconst 8 dX9_failed_7 rfl ?_
    refine zF_goto 12 dX9_failed_8 rfl ?_
    exact zF_zretP dX9_failed_12 rfl (by decide) (by first | exact zbT (by omega) | exact zbF (by omega))
theorem zt_X9_takeSign {c : Int} (hT : cTk σ B t L) (hs : cTs σ B t L s) (hc : zrg c) : zE G mX9_takeSign (d + 1) [zR (B 20), zI c] σ (fun ro σ1 => ro = .inl none ∧ zFr (PTk B) σ σ1 ∧ cTs σ1 B t L (tSgS t L c s)) := by
  refine zE_of rfl (by simp [zcat]) (Nat.le_of_ble_eq_true rfl) ?_
  show zF G mX9_takeSign (d + 1) 0 [(0, zR (B 20)), (1, zI c)] [] σ _
  have hL7 : L ≤ 700 := hT.2.2.2.2.2.2.1
  have hb := hT.b
  have ts1 := hs.1
  have te2 := te_b (t := t) hs.1
  have tb2 := tbg_b (t := t) hs.1
  have kb := tk_b t L s.1
  have vb := tv_bd (t := t) hb hs.1
  have eb := hs.2.2.2.2.2.2.2.2
  have kd0 : tKd t L s = 0 ∨ tKd t L s = tk t L s.1 := by unfold tKd; split; exact Or.inr rfl; exact Or.inl rfl
  refine zF_aload_n 1 dX9_takeSign_0 rfl rfl ?_
  refine zF_iload_n 2 dX9_takeSign_1 rfl rfl ?_
  refine zF_callVi 5 (d2 := d) (as := [zI c]) dX9_takeSign_2 rfl kX9_60 iX9_isSign (ci := 9) rfl eX9_isSign (Nat.le_refl _) hT.1 hT.2.1 rfl rfl (Nat.le_of_ble_eq_true rfl) (zt_X9_isSign hT hs (by first | decide | assumption | (constructor <;> omega))) ?_
  refine zF_ifb_eq 15 8 dX9_takeSign_5 rfl rfl (fun c1 => ?_) (fun c1 => ?_)
  · refine zF_aload_n 16 dX9_takeSign_15 rfl rfl ?_
    refine zF_iconst 17 dX9_takeSign_16 rfl ?_
    refine zF_callV 20 (d2 := d) (as := [zI 1]) dX9_takeSign_17 rfl kX9_64 iX9_fail (ci := 9) rfl eX9_fail (Nat.le_refl _) hT.1 hT.2.1 rfl rfl (Nat.le_of_ble_eq_true rfl) (zE.mono (zt_X9_fail (c := 1) hT hs (by decide) (by decide)) fun ro σa1 hh1 => ?_)
    obtain ⟨er1, fr1, p1⟩ := hh1
    subst er1
    refine ⟨fr1.1, ?_⟩
    show zF G mX9_takeSign (d + 1) 20 [(0, zR (B 20)), (1, zI c)] [] σa1 _
    exact zF_return dX9_takeSign_20 rfl ((by
    have e : tSgS t L c s = tFail 1 s := if_neg (by assumption)
    rw [e]
    exact ⟨rfl, fr1, p1⟩))
  · have ek := tKd_z (t := t) (L := L) (s := s) (by have q9 : tSg t L c s := (by assumption); omega)
    refine zF_aload_n 9 dX9_takeSign_8 rfl rfl ?_
    refine zF_callV 12 (d2 := d) (as := []) dX9_takeSign_9 rfl kX9_34 iX9_advance (ci := 9) rfl eX9_advance (Nat.le_refl _) hT.1 hT.2.1 rfl rfl (Nat.le_of_ble_eq_true rfl) (zE.mono (zt_X9_adv hT hs (by first | assumption | exact tKd_z (t := t) (L := L) (by omega))) fun ro σa2 hh2 => ?_)
    obtain ⟨er2, fr2, p2⟩ := hh2
    subst er2
    refine ⟨fr2.1, ?_⟩
    show zF G mX9_takeSign (d + 1) 12 [(0, zR (B 20)), (1, zI c)] [] σa2 _
    refine zF_goto 20 dX9_takeSign_12 rfl ?_
    exact zF_return dX9_takeSign_20 rfl ((by
    have e : tSgS t L c s = tAdv t L s := if_pos (by assumption)
    rw [e]
    exact ⟨rfl, fr2, p2⟩))
theorem zt_X9_takeNumber {lo hi : Int} (hT : cTk σ B t L) (hs : cTs σ B t L s) (h0 : zrg lo) (h1 : zrg hi) : zE G mX9_takeNumber (d + 1) [zR (B 20), zI lo, zI hi] σ (fun ro σ1 => ro = .inl (some (zI (tNumV t L lo hi s))) ∧ zFr (PTk B) σ σ1 ∧ cTs σ1 B t L (tNumS t L lo hi s)) := by
  refine zE_of rfl (by simp [zcat]) (Nat.le_of_ble_eq_true rfl) ?_
  show zF G mX9_takeNumber (d + 1) 0 [(0, zR (B 20)), (1, zI lo), (2, zI hi)] [] σ _
  have hL7 : L ≤ 700 := hT.2.2.2.2.2.2.1
  have hb := hT.b
  have ts1 := hs.1
  have te2 := te_b (t := t) hs.1
  have tb2 := tbg_b (t := t) hs.1
  have kb := tk_b t L s.1
  have vb := tv_bd (t := t) hb hs.1
  have eb := hs.2.2.2.2.2.2.2.2
  have kd0 : tKd t L s = 0 ∨ tKd t L s = tk t L s.1 := by unfold tKd; split; exact Or.inr rfl; exact Or.inl rfl
  refine zF_aload_n 1 dX9_takeNumber_0 rfl rfl ?_
  refine zF_getI 4 dX9_takeNumber_1 rfl gX9_40 (by decide) (by decide) hT.1 hT.2.1 hs.2.2.2.2.1 ?_
  refine zF_iconst 5 dX9_takeNumber_4 rfl ?_
  refine zF_icmp_eq 15 8 dX9_takeNumber_5 rfl rfl (by first | decide | assumption | (constructor <;> omega)) (by first | decide | assumption | (constructor <;> omega)) (fun c1 => ?_) (fun c1 => ?_)
  · refine zF_aload_n 16 dX9_takeNumber_15 rfl rfl ?_
    refine zF_getI 19 dX9_takeNumber_16 rfl gX9_43 (by decide) (by decide) hT.1 hT.2.1 hs.2.2.2.2.2.1 ?_
    refine zF_iload_n 20 dX9_takeNumber_19 rfl rfl ?_
    refine zF_icmp_lt 31 23 dX9_takeNumber_20 rfl rfl (by first | decide | assumption | (constructor <;> omega)) (by first | decide | assumption | (constructor <;> omega)) (fun c2 => ?_) (fun c2 => ?_)
    · refine zF_aload_n 32 dX9_takeNumber_31 rfl rfl ?_
      refine zF_iconst 33 dX9_takeNumber_32 rfl ?_
      refine zF_callV 36 (d2 := d) (as := [zI 2]) dX9_takeNumber_33 rfl kX9_64 iX9_fail (ci := 9) rfl eX9_fail (Nat.le_refl _) hT.1 hT.2.1 rfl rfl (Nat.le_of_ble_eq_true rfl) (zE.mono (zt_X9_fail (c := 2) hT hs (by decide) (by decide)) fun ro σa1 hh1 => ?_)
      obtain ⟨er1, fr1, p1⟩ := hh1
      subst er1
      refine ⟨fr1.1, ?_⟩
      show zF G mX9_takeNumber (d + 1) 36 [(0, zR (B 20)), (1, zI lo), (2, zI hi)] [] σa1 _
      refine zF_iload_n 37 dX9_takeNumber_36 rfl rfl ?_
      exact zF_ireturn dX9_takeNumber_37 rfl ((by
    have e1 : tNumS t L lo hi s = tFail 2 s := (if_neg (by omega)).trans (if_pos (by omega))
    have e2 : tNumV t L lo hi s = lo := if_pos (Or.inr (by omega))
    rw [e1, e2]
    exact ⟨rfl, fr1, p1⟩))
    · refine zF_aload_n 24 dX9_takeNumber_23 rfl rfl ?_
      refine zF_getI 27 dX9_takeNumber_24 rfl gX9_43 (by decide) (by decide) hT.1 hT.2.1 hs.2.2.2.2.2.1 ?_
      refine zF_iload_n 28 dX9_takeNumber_27 rfl rfl ?_
      refine zF_icmp_le 38 31 dX9_takeNumber_28 rfl rfl (by first | decide | assumption | (constructor <;> omega)) (by first | decide | assumption | (constructor <;> omega)) (fun c3 => ?_) (fun c3 => ?_)
      · have ek := tKd_z (t := t) (L := L) (s := s) (by omega)
        refine zF_aload_n 39 dX9_takeNumber_38 rfl rfl ?_
        refine zF_getI 42 dX9_takeNumber_39 rfl gX9_43 (by decide) (by decide) hT.1 hT.2.1 hs.2.2.2.2.2.1 ?_
        refine zF_istore_n 43 (ls' := [(3, zI (tv t L s.1)), (0, zR (B 20)), (1, zI lo), (2, zI hi)]) dX9_takeNumber_42 rfl (by decide) rfl ?_
        refine zF_aload_n 44 dX9_takeNumber_43 rfl rfl ?_
        refine zF_callV 47 (d2 := d) (as := []) dX9_takeNumber_44 rfl kX9_34 iX9_advance (ci := 9) rfl eX9_advance (Nat.le_refl _) hT.1 hT.2.1 rfl rfl (Nat.le_of_ble_eq_true rfl) (zE.mono (zt_X9_adv hT hs (by first | assumption | exact tKd_z (t := t) (L := L) (by omega))) fun ro σa2 hh2 => ?_)
        obtain ⟨er2, fr2, p2⟩ := hh2
        subst er2
        refine ⟨fr2.1, ?_⟩
        show zF G mX9_takeNumber (d + 1) 47 [(3, zI (tv t L s.1)), (0, zR (B 20)), (1, zI lo), (2, zI hi)] [] σa2 _
        refine zF_iload_n 48 dX9_takeNumber_47 rfl rfl ?_
        exact zF_ireturn dX9_takeNumber_48 rfl ((by
    have e1 : tNumS t L lo hi s = tAdv t L s := (if_neg (by omega)).trans (if_neg (by omega))
    have e2 : tNumV t L lo hi s = tv t L s.1 := if_neg (by omega)
    rw [e1, e2]
    exact ⟨rfl, fr2, p2⟩))
      · refine zF_aload_n 32 dX9_takeNumber_31 rfl rfl ?_
        refine zF_iconst 33 dX9_takeNumber_32 rfl ?_
        refine zF_callV 36 (d2 := d) (as := [zI 2]) dX9_takeNumber_33 rfl kX9_64 iX9_fail (ci := 9) rfl eX9_fail (Nat.le_refl _) hT.1 hT.2.1 rfl rfl (Nat.le_of_ble_eq_true rfl) (zE.mono (zt_X9_fail (c := 2) hT hs (by decide) (by decide)) fun ro σa3 hh3 => ?_)
        obtain ⟨er3, fr3, p3⟩ := hh3
        subst er3
        refine ⟨fr3.1, ?_⟩
        show zF G mX9_takeNumber (d + 1) 36 [(0, zR (B 20)), (1, zI lo), (2, zI hi)] [] σa3 _
        refine zF_iload_n 37 dX9_takeNumber_36 rfl rfl ?_
        exact zF_ireturn dX9_takeNumber_37 rfl ((by
    have e1 : tNumS t L lo hi s = tFail 2 s := (if_neg (by omega)).trans (if_pos (by omega))
    have e2 : tNumV t L lo hi s = lo := if_pos (Or.inr (by omega))
    rw [e1, e2]
    exact ⟨rfl, fr3, p3⟩))
  · refine zF_aload_n 9 dX9_takeNumber_8 rfl rfl ?_
    refine zF_iconst 10 dX9_takeNumber_9 rfl ?_
    refine zF_callV 13 (d2 := d) (as := [zI 1]) dX9_takeNumber_10 rfl kX9_64 iX9_fail (ci := 9) rfl eX9_fail (Nat.le_refl _) hT.1 hT.2.1 rfl rfl (Nat.le_of_ble_eq_true rfl) (zE.mono (zt_X9_fail (c := 1) hT hs (by decide) (by decide)) fun ro σa4 hh4 => ?_)
    obtain ⟨er4, fr4, p4⟩ := hh4
    subst er4
    refine ⟨fr4.1, ?_⟩
    show zF G mX9_takeNumber (d + 1) 13 [(0, zR (B 20)), (1, zI lo), (2, zI hi)] [] σa4 _
    refine zF_iload_n 14 dX9_takeNumber_13 rfl rfl ?_
    exact zF_ireturn dX9_takeNumber_14 rfl ((by
    have e1 : tNumS t L lo hi s = tFail 1 s := if_pos (by omega)
    have e2 : tNumV t L lo hi s = lo := if_pos (Or.inl (by omega))
    rw [e1, e2]
    exact ⟨rfl, fr4, p4⟩))
theorem zt_X9_isWord {i : Nat} (hT : cTk σ B t L) (hs : cTs σ B t L s) (hG : zOS G) (hi : i < 59) : zP1 G mX9_isWord (d + 4) [zR (B 20), zR (zbg + i)] σ (zb (tWd t L (zsbi i) s)) := by
  refine zE_of rfl (by simp [zcat]) (Nat.le_of_ble_eq_true rfl) ?_
  show zF G mX9_isWord (d + 4) 0 [(0, zR (B 20)), (1, zR (zbg + i))] [] σ _
  have hL7 : L ≤ 700 := hT.2.2.2.2.2.2.1
  have hb := hT.b
  have ts1 := hs.1
  have te2 := te_b (t := t) hs.1
  have tb2 := tbg_b (t := t) hs.1
  have kb := tk_b t L s.1
  have vb := tv_bd (t := t) hb hs.1
  have eb := hs.2.2.2.2.2.2.2.2
  have kd0 : tKd t L s = 0 ∨ tKd t L s = tk t L s.1 := by unfold tKd; split; exact Or.inr rfl; exact Or.inl rfl
  have zl := zsl_b i hi
  refine zF_aload_n 1 dX9_isWord_0 rfl rfl ?_
  refine zF_getI 4 dX9_isWord_1 rfl gX9_40 (by decide) (by decide) hT.1 hT.2.1 hs.2.2.2.2.1 ?_
  refine zF_iconst 5 dX9_isWord_4 rfl ?_
  refine zF_icmp_ne 24 8 dX9_isWord_5 rfl rfl (by first | decide | assumption | (constructor <;> omega)) (by first | decide | assumption | (constructor <;> omega)) (fun c1 => ?_) (fun c1 => ?_)
  · refine zF_iconst 25 dX9_isWord_24 rfl ?_
    exact zF_zretP dX9_isWord_25 rfl (by decide) (zbF (fun z => by have z1 := z.1; have z2 : te t L s.1 - tbg t L s.1 = zsl i := z.2.1; omega))
  · refine zF_aload_n 9 dX9_isWord_8 rfl rfl ?_
    refine zF_getI 12 dX9_isWord_9 rfl gX9_25 (by decide) (by decide) hT.1 hT.2.1 hs.2.2.1 ?_
    refine zF_aload_n 13 dX9_isWord_12 rfl rfl ?_
    refine zF_getI 16 dX9_isWord_13 rfl gX9_37 (by decide) (by decide) hT.1 hT.2.1 hs.2.2.2.1 ?_
    refine zF_isub 17 dX9_isWord_16 rfl ?_
    refine zF_aload_n 18 dX9_isWord_17 rfl rfl ?_
    refine zF_callOi 21 (d2 := (d + 3)) (as := []) dX9_isWord_18 rfl kX9_47 iJ0_length_8abf5 (hG.1 i hi).1 eJ0_length_8abf5 (Nat.le_refl _) rfl rfl (Nat.le_of_ble_eq_true rfl) (zt_J0_length hG hi) ?_
    refine zF_icmp_eq 26 24 dX9_isWord_21 rfl rfl (by first | decide | assumption | (constructor <;> omega)) (by first | decide | assumption | (constructor <;> omega)) (fun c2 => ?_) (fun c2 => ?_)
    · refine zF_iconst 27 dX9_isWord_26 rfl ?_
      refine zF_istore_n 28 (ls' := [(2, zI 0), (0, zR (B 20)), (1, zR (zbg + i))]) dX9_isWord_27 rfl (by decide) rfl ?_
      refine zF_locs (ls' := [(2, zI ((0 : Nat) : Int)), (0, zR (B 20)), (1, zR (zbg + i))]) ⟨zlI rfl (by first | rfl | omega | (push_cast; omega) | exact congrArg (_ + ·) (zbT (by assumption)) | exact congrArg (_ + ·) (zbF (by assumption)) | exact congrArg (_ + ·) (zbT (by omega)) | exact congrArg (_ + ·) (zbF (by omega)) | exact congrArg (_ + ·) (if_pos (by omega)).symm | exact congrArg (_ + ·) (if_neg (by omega)).symm | exact (if_pos (by omega)).symm | exact (if_neg (by omega)).symm | exact zsub_s (if_pos (by omega)).symm | exact zsub_s0 (if_neg (by omega)).symm | exact zadd0 (if_neg (by omega)).symm | exact zadd0 (zbF (by omega)) | exact (Int.sub_zero _).symm), rfl, rfl, trivial⟩ ?_
      refine zF_while (X := Nat) (fun x => zsl i - x) (fun x σ2 => x ≤ zsl i ∧ σ2 = σ ∧ ∀ k : Nat, k < x → t ((tbg t L s.1 : Int) + k) = zsc i k) (fun x => [(2, zI ((x : Nat) : Int)), (0, zR (B 20)), (1, zR (zbg + i))]) ?_ 0 σ (⟨Nat.zero_le _, rfl, fun k hk => absurd hk (Nat.not_lt_zero _)⟩)
      intro x σ2 hI28 ih28
      show zF G mX9_isWord (d + 4) 28 [(2, zI ((x : Nat) : Int)), (0, zR (B 20)), (1, zR (zbg + i))] [] σ2 _
      obtain ⟨hx, e2, hI⟩ := hI28
      subst e2
      refine zF_iload_n 29 dX9_isWord_28 rfl rfl ?_
      refine zF_aload_n 30 dX9_isWord_29 rfl rfl ?_
      refine zF_callOi 33 (d2 := (d + 3)) (as := []) dX9_isWord_30 rfl kX9_47 iJ0_length_8abf5 (hG.1 i hi).1 eJ0_length_8abf5 (Nat.le_refl _) rfl rfl (Nat.le_of_ble_eq_true rfl) (zt_J0_length hG hi) ?_
      refine zF_icmp_ge 63 36 dX9_isWord_33 rfl rfl (by first | decide | assumption | (constructor <;> omega)) (by first | decide | assumption | (constructor <;> omega)) (fun c3 => ?_) (fun c3 => ?_)
      · refine zF_iconst 64 dX9_isWord_63 rfl ?_
        exact zF_zretP dX9_isWord_64 rfl (by decide) (zbT ⟨by omega, by show _ = zsl i; omega, fun k hk => by rw [show ((tbg t L s.1 + k : Nat) : Int) = (tbg t L s.1 : Int) + k by push_cast; rfl]; exact hI k (by have : k < zsl i := hk; omega)⟩)
      · refine zF_aload_n 37 dX9_isWord_36 rfl rfl ?_
        refine zF_getR 40 dX9_isWord_37 rfl gX9_9 hT.1 hT.2.1 hT.2.2.1 ?_
        refine zF_aload_n 41 dX9_isWord_40 rfl rfl ?_
        refine zF_getI 44 dX9_isWord_41 rfl gX9_37 (by decide) (by decide) hT.1 hT.2.1 hs.2.2.2.1 ?_
        refine zF_iload_n 45 dX9_isWord_44 rfl rfl ?_
        refine zF_iadd 46 dX9_isWord_45 rfl ?_
        refine zF_baload 47 dX9_isWord_46 rfl hT.2.2.2.1 hT.2.2.2.2.1 (by omega) (by omega) ((hT.2.2.2.2.2.2.2 (((tbg t L s.1 : Nat) : Int) + ((x : Nat) : Int)) (by omega) (by omega)).1) ?_
        refine zF_aload_n 48 dX9_isWord_47 rfl rfl ?_
        refine zF_iload_n 49 dX9_isWord_48 rfl rfl ?_
        refine zF_callOi 52 (d2 := (d + 3)) (as := [zI ((x : Nat) : Int)]) dX9_isWord_49 rfl kX9_52 iJ0_charAt_5068e (hG.1 i hi).1 eJ0_charAt_5068e (Nat.le_refl _) rfl rfl (Nat.le_of_ble_eq_true rfl) (zt_J0_charAt hG hi (k := x) (by omega)) ?_
        have zc := zsc_b i hi x (by omega)
        have tbx := hb ((tbg t L s.1 : Int) + x) (by omega) (by omega)
        refine zF_icmp_eq 57 55 dX9_isWord_52 rfl rfl (by first | decide | assumption | (constructor <;> omega)) (by first | decide | assumption | (constructor <;> omega)) (fun c4 => ?_) (fun c4 => ?_)
        · refine zF_iinc 60 (ls' := [(2, zI (((x : Nat) : Int) + 1)), (0, zR (B 20)), (1, zR (zbg + i))]) dX9_isWord_57 rfl rfl rfl (by decide) rfl ?_
          refine zF_goto 28 dX9_isWord_60 rfl ?_
          exact zF_locs (ls' := [(2, zI (((x + 1) : Nat) : Int)), (0, zR (B 20)), (1, zR (zbg + i))]) ⟨zlI rfl (by first | rfl | omega | (push_cast; omega) | exact congrArg (_ + ·) (zbT (by assumption)) | exact congrArg (_ + ·) (zbF (by assumption)) | exact congrArg (_ + ·) (zbT (by omega)) | exact congrArg (_ + ·) (zbF (by omega)) | exact congrArg (_ + ·) (if_pos (by omega)).symm | exact congrArg (_ + ·) (if_neg (by omega)).symm | exact (if_pos (by omega)).symm | exact (if_neg (by omega)).symm | exact zsub_s (if_pos (by omega)).symm | exact zsub_s0 (if_neg (by omega)).symm | exact zadd0 (if_neg (by omega)).symm | exact zadd0 (zbF (by omega)) | exact (Int.sub_zero _).symm), rfl, rfl, trivial⟩ (ih28 (x + 1) _ (by omega) (⟨by omega, rfl, fun k hk => by
          by_cases e : k = x
          · subst e; assumption
          · exact hI k (by omega)⟩))
        · refine zF_iconst 56 dX9_isWord_55 rfl ?_
          exact zF_zretP dX9_isWord_56 rfl (by decide) (zbF (fun z => by have z3 : t ((tbg t L s.1 + x : Nat) : Int) = zsc i x := z.2.2 x (by show x < zsl i; omega); have z4 : ((tbg t L s.1 + x : Nat) : Int) = (tbg t L s.1 : Int) + x := (by push_cast; rfl); rw [z4] at z3; exact absurd z3 (by assumption)))
    · refine zF_iconst 25 dX9_isWord_24 rfl ?_
      exact zF_zretP dX9_isWord_25 rfl (by decide) (zbF (fun z => by have z1 := z.1; have z2 : te t L s.1 - tbg t L s.1 = zsl i := z.2.1; omega))
theorem zt_X9_takeWord {i : Nat} (hT : cTk σ B t L) (hs : cTs σ B t L s) (hG : zOS G) (hi : i < 59) : zE G mX9_takeWord (d + 5) [zR (B 20), zR (zbg + i)] σ (fun ro σ1 => ro = .inl (some (zI (zb (tWd t L (zsbi i) s)))) ∧ zFr (PTk B) σ σ1 ∧ cTs σ1 B t L (if tWd t L (zsbi i) s then tAdv t L s else s)) := by
  refine zE_of rfl (by simp [zcat]) (Nat.le_of_ble_eq_true rfl) ?_
  show zF G mX9_takeWord (d + 5) 0 [(0, zR (B 20)), (1, zR (zbg + i))] [] σ _
  have hL7 : L ≤ 700 := hT.2.2.2.2.2.2.1
  have hb := hT.b
  have ts1 := hs.1
  have te2 := te_b (t := t) hs.1
  have tb2 := tbg_b (t := t) hs.1
  have kb := tk_b t L s.1
  have vb := tv_bd (t := t) hb hs.1
  have eb := hs.2.2.2.2.2.2.2.2
  have kd0 : tKd t L s = 0 ∨ tKd t L s = tk t L s.1 := by unfold tKd; split; exact Or.inr rfl; exact Or.inl rfl
  refine zF_aload_n 1 dX9_takeWord_0 rfl rfl ?_
  refine zF_aload_n 2 dX9_takeWord_1 rfl rfl ?_
  refine zF_callVi 5 (d2 := (d + 4)) (as := [zR (zbg + i)]) dX9_takeWord_2 rfl kX9_56 iX9_isWord (ci := 9) rfl eX9_isWord (Nat.le_refl _) hT.1 hT.2.1 rfl rfl (Nat.le_of_ble_eq_true rfl) (zt_X9_isWord hT hs hG hi) ?_
  refine zF_istore_n 6 (ls' := [(2, zI (zb (tWd t L (zsbi i) s))), (0, zR (B 20)), (1, zR (zbg + i))]) dX9_takeWord_5 rfl (by decide) rfl ?_
  refine zF_iload_n 7 dX9_takeWord_6 rfl rfl ?_
  refine zF_ifb_eq 14 10 dX9_takeWord_7 rfl rfl (fun c1 => ?_) (fun c1 => ?_)
  · refine zF_iload_n 15 dX9_takeWord_14 rfl rfl ?_
    exact zF_zreturn dX9_takeWord_15 rfl (zb01 _) ((by
    rw [if_neg (by assumption)]
    exact ⟨rfl, zFr.rf, hs⟩))
  · have ek := tKd_z (t := t) (L := L) (s := s) (by have q9 : tWd t L (zsbi i) s := (by assumption); have := q9.1; omega)
    refine zF_aload_n 11 dX9_takeWord_10 rfl rfl ?_
    refine zF_callV 14 (d2 := (d + 4)) (as := []) dX9_takeWord_11 rfl kX9_34 iX9_advance (ci := 9) rfl eX9_advance (Nat.le_refl _) hT.1 hT.2.1 rfl rfl (Nat.le_of_ble_eq_true rfl) (zE.mono (zt_X9_adv hT hs (by first | assumption | exact tKd_z (t := t) (L := L) (by omega))) fun ro σa1 hh1 => ?_)
    obtain ⟨er1, fr1, p1⟩ := hh1
    subst er1
    refine ⟨fr1.1, ?_⟩
    show zF G mX9_takeWord (d + 5) 14 [(2, zI (zb (tWd t L (zsbi i) s))), (0, zR (B 20)), (1, zR (zbg + i))] [] σa1 _
    refine zF_iload_n 15 dX9_takeWord_14 rfl rfl ?_
    exact zF_zreturn dX9_takeWord_15 rfl (zb01 _) ((by
    rw [if_pos (c := tWd t L (zsbi i) s) (by assumption)]
    exact ⟨rfl, fr1, p1⟩))
theorem zt_X9_begin (hT : cTk σ B t L) : zE G mX9_begin (d + 1) [zR (B 20), zI (L : Int)] σ (fun ro σ1 => ro = .inl none ∧ zFr (PTk B) σ σ1 ∧ cTs σ1 B t L (0, 0)) := by
  refine zE_of rfl (by simp [zcat]) (Nat.le_of_ble_eq_true rfl) ?_
  show zF G mX9_begin (d + 1) 0 [(0, zR (B 20)), (1, zI (L : Int))] [] σ _
  have hL7 : L ≤ 700 := hT.2.2.2.2.2.2.1
  refine zF_aload_n 1 dX9_begin_0 rfl rfl ?_
  refine zF_iload_n 2 dX9_begin_1 rfl rfl ?_
  refine zF_aload_n 3 dX9_begin_2 rfl rfl ?_
  refine zF_getR 6 dX9_begin_3 rfl gX9_9 hT.1 hT.2.1 hT.2.2.1 ?_
  refine zF_alen 7 dX9_begin_6 rfl (by decide) hT.2.2.2.1 hT.2.2.2.2.1 ?_
  refine zF_min 10 dX9_begin_7 rfl kX9_15 (Nat.le_refl _) (by first | decide | assumption | (constructor <;> omega)) (by first | decide | assumption | (constructor <;> omega)) (Nat.le_of_ble_eq_true rfl) ?_
  refine zF_putI 13 dX9_begin_10 rfl pX9_begin_21 (Or.inl rfl) hT.1 hT.2.1 ?_
  refine zF_aload_n 14 dX9_begin_13 rfl rfl ?_
  refine zF_iconst 15 dX9_begin_14 rfl ?_
  refine zF_putI 18 dX9_begin_15 rfl pX9_begin_25 (Or.inl rfl) hT.1 hT.2.1 ?_
  refine zF_aload_n 19 dX9_begin_18 rfl rfl ?_
  refine zF_iconst 20 dX9_begin_19 rfl ?_
  refine zF_putI 23 dX9_begin_20 rfl pX9_begin_28 (Or.inl rfl) hT.1 hT.2.1 ?_
  refine zF_aload_n 24 dX9_begin_23 rfl rfl ?_
  refine zF_iconst 25 dX9_begin_24 rfl ?_
  refine zF_putI 28 dX9_begin_25 rfl pX9_begin_31 (Or.inl rfl) hT.1 hT.2.1 ?_
  refine zF_aload_n 29 dX9_begin_28 rfl rfl ?_
  refine zF_callV 32 (d2 := d) (as := []) dX9_begin_29 rfl kX9_34 iX9_advance (ci := 9) rfl eX9_advance (Nat.le_refl _) hT.1 hT.2.1 rfl rfl (Nat.le_of_ble_eq_true rfl) (zE.mono (zt_X9_advance (q := 0) (cTk_ad hT (zFr_si ⟨rfl, by decide⟩ (zFr_si ⟨rfl, by decide⟩ (zFr_si ⟨rfl, by decide⟩ (zFr_si ⟨rfl, by decide⟩ zFr.rf))))) (Nat.zero_le _) ((zsi_F (by decide) (zsi_F (by decide) (zsi_F (by decide) (zsi_same _ _ _ _)))).trans (by omega)) (zsi_F (by decide) (zsi_F (by decide) (zsi_same _ _ _ _)))) fun ro σa1 hh1 => ?_)
  obtain ⟨er1, fr1, p1⟩ := hh1
  subst er1
  refine ⟨fr1.1, ?_⟩
  show zF G mX9_begin (d + 1) 32 [(0, zR (B 20)), (1, zI (L : Int))] [] σa1 _
  exact zF_return dX9_begin_32 rfl (⟨rfl, (zFr_si ⟨rfl, by decide⟩ (zFr_si ⟨rfl, by decide⟩ (zFr_si ⟨rfl, by decide⟩ (zFr_si ⟨rfl, by decide⟩ zFr.rf)))).tr (PAd.tk fr1), Nat.zero_le _, PAd_o fr1 (by omega) ((zsi_F (by decide) (zsi_F (by decide) (zsi_F (by decide) (zsi_same _ _ _ _)))).trans (by omega)), p1.1, p1.2.1, p1.2.2.1, p1.2.2.2, PAd_o fr1 (by omega) (zsi_F (by decide) (zsi_same _ _ _ _)), PAd_o fr1 (by omega) (zsi_same _ _ _ _), Int.le_refl _, by decide⟩)
end ZTD

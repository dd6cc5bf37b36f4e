/-! the class: a query's values and relations -/
section ZCV
variable {G : zG} {d : Nat} {σ σ0 σ1 : zMem} {B : Nat → Nat} {N : Int → Int} {t : Int → Int} {L : Nat} {s : tS}
theorem PTk_cR (hi : ∀ i j, B i = B j → i = j) (f : zFr (PTk B) σ σ1) (h : cR N σ B) : cR N σ1 B := cR_congr2 (fun k h1 h2 => f.at fun j q => by have := hi _ _ q.1; omega) h
def qSw (j : Nat) : Int := if j = 8 then 0 else (j : Int) + 1
theorem qSw_d (j : Nat) : (j = 8 ∧ qSw j = 0) ∨ (j ≠ 8 ∧ qSw j = (j : Int) + 1) := by
  unfold qSw
  by_cases h : j = 8
  · rw [if_pos h]; exact Or.inl ⟨h, rfl⟩
  · rw [if_neg h]; exact Or.inr ⟨h, rfl⟩
theorem zF_swmap {M : zMeth} {pc : Nat} {ls : List (Nat × zV)} {st : List zV} {Q : zRes → zMem → Prop} (pc' : Nat) {j : Nat} (hd : decode M.2.1 pc = .ok (.iaload, 1)) (hp : pc + 1 = pc') (hO : zOPr G) (hj : j < 9) (kk : zF G M d pc' ls (zI (qSw j) :: st) σ Q) : zF G M d pc ls (zI ((j : Nat) : Int) :: zR (zbg + 301) :: st) σ Q :=
  zF_ialoadO pc' hd hp hO.2.2.2.1 (by omega) (by omega) (by decide) (by rw [Int.toNat_natCast]; exact kk)
theorem zF_proparr {M : zMeth} {pc : Nat} {ls : List (Nat × zV)} {st : List zV} {Q : zRes → zMem → Prop} (pc' : Nat) {j : Nat} (hd : decode M.2.1 pc = .ok (.aaload, 1)) (hp : pc + 1 = pc') (hO : zOPr G) (hj : j < 9) (kk : zF G M d pc' ls (zR (zbg + (200 + j)) :: st) σ Q) : zF G M d pc ls (zI ((j : Nat) : Int) :: zR (zbg + 300) :: st) σ Q :=
  zF_aaloadO pc' hd hp hO.2.1 (by omega) (by omega) (by decide) (by rw [Int.toNat_natCast]; exact kk)
theorem nI_or (a b : Nat) : nI a ||| nI b = nI (a ||| b) := by
  apply Int32.toBitVec_inj.1
  show BitVec.ofNat 32 a ||| BitVec.ofNat 32 b = BitVec.ofNat 32 (a ||| b)
  apply BitVec.eq_of_getLsbD_eq
  intro i hi
  simp [hi]
theorem nI_and (a b : Nat) : nI a &&& nI b = nI (a &&& b) := by
  apply Int32.toBitVec_inj.1
  show BitVec.ofNat 32 a &&& BitVec.ofNat 32 b = BitVec.ofNat 32 (a &&& b)
  apply BitVec.eq_of_getLsbD_eq
  intro i hi
  simp [hi]
theorem nI_xor (a b : Nat) : nI a ^^^ nI b = nI (a ^^^ b) := by
  apply Int32.toBitVec_inj.1
  show BitVec.ofNat 32 a ^^^ BitVec.ofNat 32 b = BitVec.ofNat 32 (a ^^^ b)
  apply BitVec.eq_of_getLsbD_eq
  intro i hi
  simp [hi]
theorem nI_i (a : Nat) : Int32.ofInt (a : Int) = nI a := Int32.ofInt_eq_ofNat
theorem nI_t {a : Nat} (h : a < 1024) : (nI a).toInt = (a : Int) := by rw [← nI_i]; exact zti ⟨by omega, by omega⟩
theorem m10_or {a b : Nat} (ha : a < 1024) (hb : b < 1024) : (Int32.ofInt (a : Int) ||| Int32.ofInt (b : Int)).toInt = ((a ||| b : Nat) : Int) := by
  rw [nI_i, nI_i, nI_or, nI_t (Nat.or_lt_two_pow (n := 10) ha hb)]
theorem m10_and {a b : Nat} (ha : a < 1024) : (Int32.ofInt (a : Int) &&& Int32.ofInt (b : Int)).toInt = ((a &&& b : Nat) : Int) := by
  rw [nI_i, nI_i, nI_and, nI_t (Nat.lt_of_le_of_lt Nat.and_le_left ha)]
theorem m10_xor {a b : Nat} (ha : a < 1024) (hb : b < 1024) : (Int32.ofInt (a : Int) ^^^ Int32.ofInt (b : Int)).toInt = ((a ^^^ b : Nat) : Int) := by
  rw [nI_i, nI_i, nI_xor, nI_t (Nat.xor_lt_two_pow (n := 10) ha hb)]
theorem m10_shl : ∀ k : Fin 11, (Int32.ofInt 1 <<< (Int32.ofInt ((k : Nat) : Int) &&& 31)).toInt = ((2 ^ (k : Nat) : Nat) : Int) := by decide +kernel
theorem m10_shr : ∀ m : Fin 1024, ∀ k : Fin 10, (Int32.ofInt ((Int32.ofInt ((m : Nat) : Int) >>> (Int32.ofInt ((k : Nat) : Int) &&& 31)).toInt) &&& Int32.ofInt 1).toInt = ((((m : Nat).testBit k).toNat : Nat) : Int) := by decide +kernel
/-- what the class takes for a relation -/
def qRv (t : Int → Int) (L : Nat) (s : tS) : Int := if tSg t L 60 s then 60 else if tSg t L 61 s then 61 else if tSg t L 62 s then 62 else 0
def qHd (r x y : Int) : Int := if r = 60 then zb (x < y) else if r = 61 then zb (x = y) else zb (y < x)
theorem qHd_op {x y : Int} : qHd (qRv t L s) x y = qOp (qRel t L s).1 x y := by
  unfold qRv qRel
  by_cases c1 : tSg t L 60 s
  · rw [if_pos c1, if_pos c1]; rfl
  · rw [if_neg c1, if_neg c1]
    by_cases c2 : tSg t L 61 s
    · rw [if_pos c2, if_pos c2]; rfl
    · rw [if_neg c2, if_neg c2]
      by_cases c3 : tSg t L 62 s
      · rw [if_pos c3, if_pos c3]; rfl
      · rw [if_neg c3, if_neg c3]; rfl
theorem qHd_01 {r x y : Int} : qHd r x y = 0 ∨ qHd r x y = 1 := by
  unfold qHd
  by_cases c1 : r = 60
  · rw [if_pos c1]; exact zb01 _
  · rw [if_neg c1]
    by_cases c2 : r = 61
    · rw [if_pos c2]; exact zb01 _
    · rw [if_neg c2]; exact zb01 _
theorem qRv_b : 0 ≤ qRv t L s ∧ qRv t L s ≤ 62 := by
  unfold qRv
  split
  · decide
  · split
    · decide
    · split <;> decide
theorem zt_X7_holdsA {r x y : Int} (hr : zrg r) (zx : zrg x) (zy : zrg y) : zP1 G mX7_holds d [zI r, zI x, zI y] σ (qHd r x y) := by
  refine zE_of rfl (by simp [zcat]) (Nat.le_of_ble_eq_true rfl) ?_
  show zF G mX7_holds d 0 [(0, zI r), (1, zI x), (2, zI y)] [] σ _
  refine zF_iload_n 1 dX7_holds_0 rfl rfl ?_
  refine zF_bipush 3 dX7_holds_1 rfl (by decide) ?_
  refine zF_icmp_ne 17 6 dX7_holds_3 rfl rfl (by first | decide | assumption | (constructor <;> omega)) (by first | decide | assumption | (constructor <;> omega)) (fun c1 => ?_) (fun c1 => ?_)
  · refine zF_iload_n 18 dX7_holds_17 rfl rfl ?_
    refine zF_bipush 20 dX7_holds_18 rfl (by decide) ?_
    refine zF_icmp_ne 36 23 dX7_holds_20 rfl rfl (by first | decide | assumption | (constructor <;> omega)) (by first | decide | assumption | (constructor <;> omega)) (fun c2 => ?_) (fun c2 => ?_)
    · refine zF_iload_n 37 dX7_holds_36 rfl rfl ?_
      refine zF_iload_n 38 dX7_holds_37 rfl rfl ?_
      refine zF_icmp_le 45 41 dX7_holds_38 rfl rfl (by first | decide | assumption | (constructor <;> omega)) (by first | decide | assumption | (constructor <;> omega)) (fun c3 => ?_) (fun c3 => ?_)
      · refine zF_iconst 46 dX7_holds_45 rfl ?_
        exact zF_zretP dX7_holds_46 rfl (by decide) ((by unfold qHd; first | (rw [if_pos (by omega)]; first | exact zbT (by omega) | exact zbF (by omega)) | (rw [if_neg (by omega), if_pos (by omega)]; first | exact zbT (by omega) | exact zbF (by omega)) | (rw [if_neg (by omega), if_neg (by omega)]; first | exact zbT (by omega) | exact zbF (by omega))))
      · refine zF_iconst 42 dX7_holds_41 rfl ?_
        refine zF_goto 46 dX7_holds_42 rfl ?_
        exact zF_zretP dX7_holds_46 rfl (by decide) ((by unfold qHd; first | (rw [if_pos (by omega)]; first | exact zbT (by omega) | exact zbF (by omega)) | (rw [if_neg (by omega), if_pos (by omega)]; first | exact zbT (by omega) | exact zbF (by omega)) | (rw [if_neg (by omega), if_neg (by omega)]; first | exact zbT (by omega) | exact zbF (by omega))))
    · refine zF_iload_n 24 dX7_holds_23 rfl rfl ?_
      refine zF_iload_n 25 dX7_holds_24 rfl rfl ?_
      refine zF_icmp_ne 32 28 dX7_holds_25 rfl rfl (by first | decide | assumption | (constructor <;> omega)) (by first | decide | assumption | (constructor <;> omega)) (fun c4 => ?_) (fun c4 => ?_)
      · refine zF_iconst 33 dX7_holds_32 rfl ?_
        refine zF_goto 46 dX7_holds_33 rfl ?_
        exact zF_zretP dX7_holds_46 rfl (by decide) ((by unfold qHd; first | (rw [if_pos (by omega)]; first | exact zbT (by omega) | exact zbF (by omega)) | (rw [if_neg (by omega), if_pos (by omega)]; first | exact zbT (by omega) | exact zbF (by omega)) | (rw [if_neg (by omega), if_neg (by omega)]; first | exact zbT (by omega) | exact zbF (by omega))))
      · refine zF_iconst 29 dX7_holds_28 rfl ?_
        refine zF_goto 46 dX7_holds_29 rfl ?_
        exact zF_zretP dX7_holds_46 rfl (by decide) ((by unfold qHd; first | (rw [if_pos (by omega)]; first | exact zbT (by omega) | exact zbF (by omega)) | (rw [if_neg (by omega), if_pos (by omega)]; first | exact zbT (by omega) | exact zbF (by omega)) | (rw [if_neg (by omega), if_neg (by omega)]; first | exact zbT (by omega) | exact zbF (by omega))))
  · refine zF_iload_n 7 dX7_holds_6 rfl rfl ?_
    refine zF_iload_n 8 dX7_holds_7 rfl rfl ?_
    refine zF_icmp_ge 15 11 dX7_holds_8 rfl rfl (by first | decide | assumption | (constructor <;> omega)) (by first | decide | assumption | (constructor <;> omega)) (fun c5 => ?_) (fun c5 => ?_)
    · refine zF_iconst 16 dX7_holds_15 rfl ?_
      exact zF_zretP dX7_holds_16 rfl (by decide) ((by unfold qHd; first | (rw [if_pos (by omega)]; first | exact zbT (by omega) | exact zbF (by omega)) | (rw [if_neg (by omega), if_pos (by omega)]; first | exact zbT (by omega) | exact zbF (by omega)) | (rw [if_neg (by omega), if_neg (by omega)]; first | exact zbT (by omega) | exact zbF (by omega))))
    · refine zF_iconst 12 dX7_holds_11 rfl ?_
      refine zF_goto 16 dX7_holds_12 rfl ?_
      exact zF_zretP dX7_holds_16 rfl (by decide) ((by unfold qHd; first | (rw [if_pos (by omega)]; first | exact zbT (by omega) | exact zbF (by omega)) | (rw [if_neg (by omega), if_pos (by omega)]; first | exact zbT (by omega) | exact zbF (by omega)) | (rw [if_neg (by omega), if_neg (by omega)]; first | exact zbT (by omega) | exact zbF (by omega))))
theorem zt_X7_readRelation (hG : zOS G) (hO : zOPr G) (hq : cQt σ B) (hB : cM σ B) (hR : cR N σ B) (hT : cTk σ B t L) (hs : cTs σ B t L s) : zE G mX7_readRelation (d + 1) [zR (B 40)] σ (fun ro σ1 => ro = .inl (some (zI (qRv t L s))) ∧ zFr (PTk B) σ σ1 ∧ cTs σ1 B t L (qRel t L s).2) := by
  refine zE_of rfl (by simp [zcat]) (Nat.le_of_ble_eq_true rfl) ?_
  show zF G mX7_readRelation (d + 1) 0 [(0, zR (B 40))] [] σ _
  have eb := hs.2.2.2.2.2.2.2.2
  have hi := hB.inj
  refine zF_aload_n 1 dX7_readRelation_0 rfl rfl ?_
  refine zF_getR 4 dX7_readRelation_1 rfl gX7_9 hq.1 hq.2.1 hq.2.2.1 ?_
  refine zF_bipush 6 dX7_readRelation_4 rfl (by decide) ?_
  refine zF_callVi 9 (d2 := d) (as := [zI 60]) dX7_readRelation_6 rfl kX7_77 iX9_isSign (ci := 9) rfl eX9_isSign (Nat.le_refl _) hT.1 hT.2.1 rfl rfl (Nat.le_of_ble_eq_true rfl) (zt_X9_isSign (σ := σ) hT hs (by decide)) ?_
  refine zF_ifb_ne 46 12 dX7_readRelation_9 rfl rfl (fun c1 => ?_) (fun c1 => ?_)
  · have hw : tSg t L 60 s ∨ tSg t L 61 s ∨ tSg t L 62 s := by first | exact Or.inl (by assumption) | exact Or.inr (Or.inl (by assumption)) | exact Or.inr (Or.inr (by assumption))
    have h0 : s.2 = 0 := by rcases hw with q | q | q <;> exact tSg_0 q
    have ev : qRv t L s = tv t L s.1 := by first | exact (if_pos (by assumption)).trans (by assumption : tSg t L 60 s).2.symm | exact (if_neg (by assumption)).trans ((if_pos (by assumption)).trans (by assumption : tSg t L 61 s).2.symm) | exact (if_neg (by assumption)).trans ((if_neg (by assumption)).trans ((if_pos (by assumption)).trans (by assumption : tSg t L 62 s).2.symm))
    refine zF_aload_n 47 dX7_readRelation_46 rfl rfl ?_
    refine zF_getR 50 dX7_readRelation_47 rfl gX7_9 hq.1 hq.2.1 hq.2.2.1 ?_
    refine zF_getI 53 dX7_readRelation_50 rfl gX7_109 (by decide) (by decide) hT.1 hT.2.1 hs.2.2.2.2.2.1 ?_
    refine zF_istore_n 54 (ls' := [(1, zI (tv t L s.1)), (0, zR (B 40))]) dX7_readRelation_53 rfl (by decide) rfl ?_
    refine zF_aload_n 55 dX7_readRelation_54 rfl rfl ?_
    refine zF_getR 58 dX7_readRelation_55 rfl gX7_9 hq.1 hq.2.1 hq.2.2.1 ?_
    refine zF_callV 61 (d2 := d) (as := []) dX7_readRelation_58 rfl kX7_85 iX9_advance (ci := 9) rfl eX9_advance (Nat.le_refl _) hT.1 hT.2.1 rfl rfl (Nat.le_of_ble_eq_true rfl) (zE.mono (zt_X9_adv (σ := σ) hT hs h0) fun ro σa1 hh1 => ?_)
    obtain ⟨er1, fr1, p1⟩ := hh1
    subst er1
    refine ⟨fr1.1, ?_⟩
    show zF G mX7_readRelation (d + 1) 61 [(1, zI (tv t L s.1)), (0, zR (B 40))] [] σa1 _
    have hB1a := cM_fr hB fr1
    have hR1a := PTk_cR hB.inj fr1 hR
    have hT1a := cTk_ad hT fr1
    have hq1a := cQt_fr hq fr1
    have hs1a : cTs σa1 B t L (tAdv t L s) := p1
    have eb1 := hs1a.2.2.2.2.2.2.2.2
    refine zF_iload_n 62 dX7_readRelation_61 rfl rfl ?_
    exact zF_ireturn dX7_readRelation_62 rfl ((by
      have e2 : (qRel t L s).2 = (tAdv t L s) := by rw [qRel_2, if_pos hw]
      rw [e2, ev]
      exact ⟨rfl, fr1, hs1a⟩))
  · refine zF_aload_n 13 dX7_readRelation_12 rfl rfl ?_
    refine zF_getR 16 dX7_readRelation_13 rfl gX7_9 hq.1 hq.2.1 hq.2.2.1 ?_
    refine zF_bipush 18 dX7_readRelation_16 rfl (by decide) ?_
    refine zF_callVi 21 (d2 := d) (as := [zI 61]) dX7_readRelation_18 rfl kX7_77 iX9_isSign (ci := 9) rfl eX9_isSign (Nat.le_refl _) hT.1 hT.2.1 rfl rfl (Nat.le_of_ble_eq_true rfl) (zt_X9_isSign (σ := σ) hT hs (by decide)) ?_
    refine zF_ifb_ne 46 24 dX7_readRelation_21 rfl rfl (fun c2 => ?_) (fun c2 => ?_)
    · have hw : tSg t L 60 s ∨ tSg t L 61 s ∨ tSg t L 62 s := by first | exact Or.inl (by assumption) | exact Or.inr (Or.inl (by assumption)) | exact Or.inr (Or.inr (by assumption))
      have h0 : s.2 = 0 := by rcases hw with q | q | q <;> exact tSg_0 q
      have ev : qRv t L s = tv t L s.1 := by first | exact (if_pos (by assumption)).trans (by assumption : tSg t L 60 s).2.symm | exact (if_neg (by assumption)).trans ((if_pos (by assumption)).trans (by assumption : tSg t L 61 s).2.symm) | exact (if_neg (by assumption)).trans ((if_neg (by assumption)).trans ((if_pos (by assumption)).trans (by assumption : tSg t L 62 s).2.symm))
      refine zF_aload_n 47 dX7_readRelation_46 rfl rfl ?_
      refine zF_getR 50 dX7_readRelation_47 rfl gX7_9 hq.1 hq.2.1 hq.2.2.1 ?_
      refine zF_getI 53 dX7_readRelation_50 rfl gX7_109 (by decide) (by decide) hT.1 hT.2.1 hs.2.2.2.2.2.1 ?_
      refine zF_istore_n 54 (ls' := [(1, zI (tv t L s.1)), (0, zR (B 40))]) dX7_readRelation_53 rfl (by decide) rfl ?_
      refine zF_aload_n 55 dX7_readRelation_54 rfl rfl ?_
      refine zF_getR 58 dX7_readRelation_55 rfl gX7_9 hq.1 hq.2.1 hq.2.2.1 ?_
      refine zF_callV 61 (d2 := d) (as := []) dX7_readRelation_58 rfl kX7_85 iX9_advance (ci := 9) rfl eX9_advance (Nat.le_refl _) hT.1 hT.2.1 rfl rfl (Nat.le_of_ble_eq_true rfl) (zE.mono (zt_X9_adv (σ := σ) hT hs h0) fun ro σa2 hh2 => ?_)
      obtain ⟨er2, fr2, p2⟩ := hh2
      subst er2
      refine ⟨fr2.1, ?_⟩
      show zF G mX7_readRelation (d + 1) 61 [(1, zI (tv t L s.1)), (0, zR (B 40))] [] σa2 _
      have hB2a := cM_fr hB fr2
      have hR2a := PTk_cR hB.inj fr2 hR
      have hT2a := cTk_ad hT fr2
      have hq2a := cQt_fr hq fr2
      have hs2a : cTs σa2 B t L (tAdv t L s) := p2
      have eb2 := hs2a.2.2.2.2.2.2.2.2
      refine zF_iload_n 62 dX7_readRelation_61 rfl rfl ?_
      exact zF_ireturn dX7_readRelation_62 rfl ((by
        have e2 : (qRel t L s).2 = (tAdv t L s) := by rw [qRel_2, if_pos hw]
        rw [e2, ev]
        exact ⟨rfl, fr2, hs2a⟩))
    · refine zF_aload_n 25 dX7_readRelation_24 rfl rfl ?_
      refine zF_getR 28 dX7_readRelation_25 rfl gX7_9 hq.1 hq.2.1 hq.2.2.1 ?_
      refine zF_bipush 30 dX7_readRelation_28 rfl (by decide) ?_
      refine zF_callVi 33 (d2 := d) (as := [zI 62]) dX7_readRelation_30 rfl kX7_77 iX9_isSign (ci := 9) rfl eX9_isSign (Nat.le_refl _) hT.1 hT.2.1 rfl rfl (Nat.le_of_ble_eq_true rfl) (zt_X9_isSign (σ := σ) hT hs (by decide)) ?_
      refine zF_ifb_ne 46 36 dX7_readRelation_33 rfl rfl (fun c3 => ?_) (fun c3 => ?_)
      · have hw : tSg t L 60 s ∨ tSg t L 61 s ∨ tSg t L 62 s := by first | exact Or.inl (by assumption) | exact Or.inr (Or.inl (by assumption)) | exact Or.inr (Or.inr (by assumption))
        have h0 : s.2 = 0 := by rcases hw with q | q | q <;> exact tSg_0 q
        have ev : qRv t L s = tv t L s.1 := by first | exact (if_pos (by assumption)).trans (by assumption : tSg t L 60 s).2.symm | exact (if_neg (by assumption)).trans ((if_pos (by assumption)).trans (by assumption : tSg t L 61 s).2.symm) | exact (if_neg (by assumption)).trans ((if_neg (by assumption)).trans ((if_pos (by assumption)).trans (by assumption : tSg t L 62 s).2.symm))
        refine zF_aload_n 47 dX7_readRelation_46 rfl rfl ?_
        refine zF_getR 50 dX7_readRelation_47 rfl gX7_9 hq.1 hq.2.1 hq.2.2.1 ?_
        refine zF_getI 53 dX7_readRelation_50 rfl gX7_109 (by decide) (by decide) hT.1 hT.2.1 hs.2.2.2.2.2.1 ?_
        refine zF_istore_n 54 (ls' := [(1, zI (tv t L s.1)), (0, zR (B 40))]) dX7_readRelation_53 rfl (by decide) rfl ?_
        refine zF_aload_n 55 dX7_readRelation_54 rfl rfl ?_
        refine zF_getR 58 dX7_readRelation_55 rfl gX7_9 hq.1 hq.2.1 hq.2.2.1 ?_
        refine zF_callV 61 (d2 := d) (as := []) dX7_readRelation_58 rfl kX7_85 iX9_advance (ci := 9) rfl eX9_advance (Nat.le_refl _) hT.1 hT.2.1 rfl rfl (Nat.le_of_ble_eq_true rfl) (zE.mono (zt_X9_adv (σ := σ) hT hs h0) fun ro σa3 hh3 => ?_)
        obtain ⟨er3, fr3, p3⟩ := hh3
        subst er3
        refine ⟨fr3.1, ?_⟩
        show zF G mX7_readRelation (d + 1) 61 [(1, zI (tv t L s.1)), (0, zR (B 40))] [] σa3 _
        have hB3a := cM_fr hB fr3
        have hR3a := PTk_cR hB.inj fr3 hR
        have hT3a := cTk_ad hT fr3
        have hq3a := cQt_fr hq fr3
        have hs3a : cTs σa3 B t L (tAdv t L s) := p3
        have eb3 := hs3a.2.2.2.2.2.2.2.2
        refine zF_iload_n 62 dX7_readRelation_61 rfl rfl ?_
        exact zF_ireturn dX7_readRelation_62 rfl ((by
          have e2 : (qRel t L s).2 = (tAdv t L s) := by rw [qRel_2, if_pos hw]
          rw [e2, ev]
          exact ⟨rfl, fr3, hs3a⟩))
      · refine zF_aload_n 37 dX7_readRelation_36 rfl rfl ?_
        refine zF_getR 40 dX7_readRelation_37 rfl gX7_9 hq.1 hq.2.1 hq.2.2.1 ?_
        refine zF_iconst 41 dX7_readRelation_40 rfl ?_
        refine zF_callV 44 (d2 := d) (as := [zI 1]) dX7_readRelation_41 rfl kX7_41 iX9_fail (ci := 9) rfl eX9_fail (Nat.le_refl _) hT.1 hT.2.1 rfl rfl (Nat.le_of_ble_eq_true rfl) (zE.mono (zt_X9_fail (σ := σ) (c := 1) hT hs (by decide) (by decide)) fun ro σa4 hh4 => ?_)
        obtain ⟨er4, fr4, p4⟩ := hh4
        subst er4
        refine ⟨fr4.1, ?_⟩
        show zF G mX7_readRelation (d + 1) 44 [(0, zR (B 40))] [] σa4 _
        have hB4a := cM_fr hB fr4
        have hR4a := PTk_cR hB.inj fr4 hR
        have hT4a := cTk_ad hT fr4
        have hq4a := cQt_fr hq fr4
        have hs4a : cTs σa4 B t L (tFail 1 s) := p4
        have eb4 := hs4a.2.2.2.2.2.2.2.2
        refine zF_iconst 45 dX7_readRelation_44 rfl ?_
        exact zF_ireturn dX7_readRelation_45 rfl ((by
          have e1 : qRv t L s = 0 := (if_neg (by assumption)).trans ((if_neg (by assumption)).trans (if_neg (by assumption)))
          have e2 : (qRel t L s).2 = (tFail 1 s) := by rw [qRel_2, if_neg (fun z => by rcases z with z | z | z <;> contradiction)]
          rw [e1, e2]
          exact ⟨rfl, fr4, hs4a⟩))
theorem zt_X7_readValue (hG : zOS G) (hO : zOPr G) (hq : cQt σ B) (hB : cM σ B) (hR : cR N σ B) (hT : cTk σ B t L) (hs : cTs σ B t L s) : zE G mX7_readValue (d + 6) [zR (B 40)] σ (fun ro σ1 => ro = .inl (some (zI (qVal t L s).1)) ∧ zFr (PTk B) σ σ1 ∧ cTs σ1 B t L (qVal t L s).2) := by
  refine zE_of rfl (by simp [zcat]) (Nat.le_of_ble_eq_true rfl) ?_
  show zF G mX7_readValue (d + 6) 0 [(0, zR (B 40))] [] σ _
  have eb := hs.2.2.2.2.2.2.2.2
  have hi := hB.inj
  have kb := tk_b t L s.1
  refine zF_aload_n 1 dX7_readValue_0 rfl rfl ?_
  refine zF_getR 4 dX7_readValue_1 rfl gX7_9 hq.1 hq.2.1 hq.2.2.1 ?_
  refine zF_getI 7 dX7_readValue_4 rfl gX7_48 (by decide) (by decide) hT.1 hT.2.1 hs.2.2.2.2.1 ?_
  refine zF_iconst 8 dX7_readValue_7 rfl ?_
  refine zF_icmp_ne 22 11 dX7_readValue_8 rfl rfl (by first | decide | assumption | (unfold tKd; split <;> constructor <;> omega) | (constructor <;> omega)) (by first | decide | assumption | (unfold tKd; split <;> constructor <;> omega) | (constructor <;> omega)) (fun c1 => ?_) (fun c1 => ?_)
  · refine zF_iconst 23 dX7_readValue_22 rfl ?_
    refine zF_istore_n 24 (ls' := [(1, zI 0), (0, zR (B 40))]) dX7_readValue_23 rfl (by decide) rfl ?_
    refine zF_locs (ls' := [(1, zI ((0 : Nat) : Int)), (0, zR (B 40))]) ⟨zlI rfl (by first | rfl | omega | (push_cast; omega) | exact congrArg (_ + ·) (zbT (by assumption)) | exact congrArg (_ + ·) (zbF (by assumption)) | exact congrArg (_ + ·) (zbT (by omega)) | exact congrArg (_ + ·) (zbF (by omega)) | exact congrArg (_ + ·) (if_pos (by omega)).symm | exact congrArg (_ + ·) (if_neg (by omega)).symm | exact (if_pos (by omega)).symm | exact (if_neg (by omega)).symm | exact zsub_s (if_pos (by omega)).symm | exact zsub_s0 (if_neg (by omega)).symm | exact zadd0 (if_neg (by omega)).symm | exact zadd0 (zbF (by omega)) | exact (Int.sub_zero _).symm), rfl, trivial⟩ ?_
    refine zF_while (X := Nat) (fun y => 9 - y) (fun y σ2 => y ≤ 9 ∧ σ2 = σ ∧ ∀ j, j < y → ¬ tWd t L (zsbi (50 + j)) s) (fun y => [(1, zI ((y : Nat) : Int)), (0, zR (B 40))]) ?_ 0 σ (⟨Nat.zero_le _, rfl, fun j b => absurd b (Nat.not_lt_zero _)⟩)
    intro x σ2 hI24 ih24
    show zF G mX7_readValue (d + 6) 24 [(1, zI ((x : Nat) : Int)), (0, zR (B 40))] [] σ2 _
    obtain ⟨hx9, e2, hno⟩ := hI24
    subst e2
    refine zF_iload_n 25 dX7_readValue_24 rfl rfl ?_
    refine zF_getsRN 28 dX7_readValue_25 rfl fX7_116 hO.1 ?_
    refine zF_alenO 29 dX7_readValue_28 rfl hO.2.1 ?_
    refine zF_icmp_ge 67 32 dX7_readValue_29 rfl rfl (by first | decide | assumption | (unfold tKd; split <;> constructor <;> omega) | (constructor <;> omega)) (by first | decide | assumption | (unfold tKd; split <;> constructor <;> omega) | (constructor <;> omega)) (fun c2 => ?_) (fun c2 => ?_)
    · have hb9 : ∀ j, 0 ≤ j → j < x → ¬ tWd t L (zsbi (50 + j)) s := fun j _ b => hno j b
      have hix : qIx t L s = x := qIxF_is hb9 (Nat.zero_le _) (Or.inr (by omega))
      refine zF_aload_n 68 dX7_readValue_67 rfl rfl ?_
      refine zF_getR 71 dX7_readValue_68 rfl gX7_9 hq.1 hq.2.1 hq.2.2.1 ?_
      refine zF_iconst 72 dX7_readValue_71 rfl ?_
      refine zF_callV 75 (d2 := (d + 5)) (as := [zI 1]) dX7_readValue_72 rfl kX7_41 iX9_fail (ci := 9) rfl eX9_fail (Nat.le_refl _) hT.1 hT.2.1 rfl rfl (Nat.le_of_ble_eq_true rfl) (zE.mono (zt_X9_fail (σ := σ2) (c := 1) hT hs (by decide) (by decide)) fun ro σa1 hh1 => ?_)
      obtain ⟨er1, fr1, p1⟩ := hh1
      subst er1
      refine ⟨fr1.1, ?_⟩
      show zF G mX7_readValue (d + 6) 75 [(1, zI ((x : Nat) : Int)), (0, zR (B 40))] [] σa1 _
      have hB1a := cM_fr hB fr1
      have hR1a := PTk_cR hB.inj fr1 hR
      have hT1a := cTk_ad hT fr1
      have hq1a := cQt_fr hq fr1
      have hs1a : cTs σa1 B t L (tFail 1 s) := p1
      have eb1 := hs1a.2.2.2.2.2.2.2.2
      refine zF_iconst 76 dX7_readValue_75 rfl ?_
      exact zF_ireturn dX7_readValue_76 rfl ((by
        have e : qVal t L s = (0, (tFail 1 s)) := (if_neg (by assumption)).trans (if_neg (by rw [hix]; omega))
        rw [e]
        exact ⟨rfl, fr1, hs1a⟩))
    · refine zF_aload_n 33 dX7_readValue_32 rfl rfl ?_
      refine zF_getR 36 dX7_readValue_33 rfl gX7_9 hq.1 hq.2.1 hq.2.2.1 ?_
      refine zF_getsRN 39 dX7_readValue_36 rfl fX7_116 hO.1 ?_
      refine zF_iload_n 40 dX7_readValue_39 rfl rfl ?_
      refine zF_proparr 41 dX7_readValue_40 rfl hO (by omega) ?_
      refine zF_getOR 44 dX7_readValue_41 rfl fX7_120 (hO.2.2.2.2 x (by omega)).2.2 ?_
      refine zF_callVi 47 (d2 := (d + 5)) (as := [zR (zbg + (50 + x))]) dX7_readValue_44 rfl kX7_74 iX9_isWord (ci := 9) rfl eX9_isWord (Nat.le_refl _) hT.1 hT.2.1 rfl rfl (Nat.le_of_ble_eq_true rfl) (zt_X9_isWord (σ := σ2) (i := (50 + x)) hT hs hG (by omega)) ?_
      refine zF_ifb_eq 61 50 dX7_readValue_47 rfl rfl (fun c3 => ?_) (fun c3 => ?_)
      · refine zF_iinc 64 (ls' := [(1, zI (((x : Nat) : Int) + 1)), (0, zR (B 40))]) dX7_readValue_61 rfl rfl rfl (by decide) rfl ?_
        refine zF_goto 24 dX7_readValue_64 rfl ?_
        exact zF_locs (ls' := [(1, zI (((x + 1) : Nat) : Int)), (0, zR (B 40))]) ⟨zlI rfl (by first | rfl | omega | (push_cast; omega) | exact congrArg (_ + ·) (zbT (by assumption)) | exact congrArg (_ + ·) (zbF (by assumption)) | exact congrArg (_ + ·) (zbT (by omega)) | exact congrArg (_ + ·) (zbF (by omega)) | exact congrArg (_ + ·) (if_pos (by omega)).symm | exact congrArg (_ + ·) (if_neg (by omega)).symm | exact (if_pos (by omega)).symm | exact (if_neg (by omega)).symm | exact zsub_s (if_pos (by omega)).symm | exact zsub_s0 (if_neg (by omega)).symm | exact zadd0 (if_neg (by omega)).symm | exact zadd0 (zbF (by omega)) | exact (Int.sub_zero _).symm), rfl, trivial⟩ (ih24 (x + 1) _ (by omega) (⟨by omega, rfl, fun j b => by
          by_cases q : j = x
          · subst q; assumption
          · exact hno j (by omega)⟩))
      · have hb9 : ∀ j, 0 ≤ j → j < x → ¬ tWd t L (zsbi (50 + j)) s := fun j _ b => hno j b
        have hw9 : tWd t L (zsbi (50 + x)) s := by assumption
        have h0 : s.2 = 0 := tWd_0 hw9
        have hix : qIx t L s = x := qIxF_is hb9 (Nat.zero_le _) (Or.inl ⟨by omega, hw9⟩)
        have hk2 : ¬ tKd t L s = 2 := fun z => by have := hw9.1; omega
        refine zF_aload_n 51 dX7_readValue_50 rfl rfl ?_
        refine zF_getR 54 dX7_readValue_51 rfl gX7_9 hq.1 hq.2.1 hq.2.2.1 ?_
        refine zF_callV 57 (d2 := (d + 5)) (as := []) dX7_readValue_54 rfl kX7_85 iX9_advance (ci := 9) rfl eX9_advance (Nat.le_refl _) hT.1 hT.2.1 rfl rfl (Nat.le_of_ble_eq_true rfl) (zE.mono (zt_X9_adv (σ := σ2) hT hs h0) fun ro σa2 hh2 => ?_)
        obtain ⟨er2, fr2, p2⟩ := hh2
        subst er2
        refine ⟨fr2.1, ?_⟩
        show zF G mX7_readValue (d + 6) 57 [(1, zI ((x : Nat) : Int)), (0, zR (B 40))] [] σa2 _
        have hB2a := cM_fr hB fr2
        have hR2a := PTk_cR hB.inj fr2 hR
        have hT2a := cTk_ad hT fr2
        have hq2a := cQt_fr hq fr2
        have hs2a : cTs σa2 B t L (tAdv t L s) := p2
        have eb2 := hs2a.2.2.2.2.2.2.2.2
        refine zF_iconst 58 dX7_readValue_57 rfl ?_
        refine zF_iload_n 59 dX7_readValue_58 rfl rfl ?_
        refine zF_isub 60 dX7_readValue_59 rfl ?_
        exact zF_ireturn dX7_readValue_60 rfl ((by
          have e : qVal t L s = ((-1 - (x : Int)), (tAdv t L s)) := (if_neg hk2).trans ((if_pos (by rw [hix]; omega)).trans (by rw [hix]))
          rw [e]
          exact ⟨rfl, fr2, hs2a⟩))
  · refine zF_aload_n 12 dX7_readValue_11 rfl rfl ?_
    refine zF_getR 15 dX7_readValue_12 rfl gX7_9 hq.1 hq.2.1 hq.2.2.1 ?_
    refine zF_iconst 16 dX7_readValue_15 rfl ?_
    refine zF_ldc 18 dX7_readValue_16 rfl oX7_112 ?_
    refine zF_callV 21 (d2 := (d + 5)) (as := [zI 0, zI (99999)]) dX7_readValue_18 rfl kX7_113 iX9_takeNumber (ci := 9) rfl eX9_takeNumber (Nat.le_refl _) hT.1 hT.2.1 rfl rfl (Nat.le_of_ble_eq_true rfl) (zE.mono (zt_X9_takeNumber (σ := σ) hT hs (by decide) (by decide)) fun ro σa3 hh3 => ?_)
    obtain ⟨er3, fr3, p3⟩ := hh3
    subst er3
    refine ⟨fr3.1, ?_⟩
    show zF G mX7_readValue (d + 6) 21 [(0, zR (B 40))] [zI (tNumV t L 0 (99999) s)] σa3 _
    have hB3a := cM_fr hB fr3
    have hR3a := PTk_cR hB.inj fr3 hR
    have hT3a := cTk_ad hT fr3
    have hq3a := cQt_fr hq fr3
    have hs3a : cTs σa3 B t L (tNumS t L 0 (99999) s) := p3
    have eb3 := hs3a.2.2.2.2.2.2.2.2
    exact zF_ireturn dX7_readValue_21 rfl ((by
      have e : qVal t L s = ((tNumV t L 0 99999 s), (tNumS t L 0 (99999) s)) := if_pos (by first | assumption | omega)
      rw [e]
      exact ⟨rfl, fr3, hs3a⟩))
theorem zt_X7_valueFor {v a : Int} (hO : zOPr G) (hq : cQt σ B) (hB : cM σ B) (hR : cR N σ B) (hV : mV N) (hW : mW N) (hX : mX N) (s0 : 0 ≤ a) (s1 : a < N 1) (v0 : -10 < v) (v1 : v ≤ 99999) : zP1 G mX7_valueFor (d + 2) [zR (B 40), zI v, zI a] σ (qPv (qPn N a) v) := by
  refine zE_of rfl (by simp [zcat]) (Nat.le_of_ble_eq_true rfl) ?_
  show zF G mX7_valueFor (d + 2) 0 [(0, zR (B 40)), (1, zI v), (2, zI a)] [] σ _
  have hb := hV.b
  have hn := hV.n
  have hs := hV.s a s0 (by omega)
  refine zF_iconst 1 dX7_valueFor_0 rfl ?_
  refine zF_iload_n 2 dX7_valueFor_1 rfl rfl ?_
  refine zF_isub 3 dX7_valueFor_2 rfl ?_
  refine zF_istore_n 4 (ls' := [(3, zI ((-1) - v)), (0, zR (B 40)), (1, zI v), (2, zI a)]) dX7_valueFor_3 rfl (by decide) rfl ?_
  refine zF_iload_n 5 dX7_valueFor_4 rfl rfl ?_
  refine zF_if_lt 16 8 dX7_valueFor_5 rfl rfl (by first | decide | assumption | exact hb _ | exact mSh_rg hb _ _ | exact zb_rg _ | (constructor <;> omega)) (fun c1 => ?_) (fun c1 => ?_)
  · refine zF_iload_n 17 dX7_valueFor_16 rfl rfl ?_
    exact zF_iretP dX7_valueFor_17 rfl ((by unfold qPv; exact (if_pos (by omega)).symm))
  · refine zF_iload_n 9 dX7_valueFor_8 rfl rfl ?_
    refine zF_getsRN 12 dX7_valueFor_9 rfl fX7_116 hO.1 ?_
    refine zF_alenO 13 dX7_valueFor_12 rfl hO.2.1 ?_
    refine zF_icmp_lt 18 16 dX7_valueFor_13 rfl rfl (by first | decide | assumption | exact hb _ | exact mSh_rg hb _ _ | exact zb_rg _ | (constructor <;> omega)) (by first | decide | assumption | exact hb _ | exact mSh_rg hb _ _ | exact zb_rg _ | (constructor <;> omega)) (fun c2 => ?_) (fun c2 => ?_)
    · refine zF_getsR 21 dX7_valueFor_18 rfl fX7_126 hO.2.2.1 ?_
      refine zF_getsRN 24 dX7_valueFor_21 rfl fX7_116 hO.1 ?_
      refine zF_iload_n 25 dX7_valueFor_24 rfl rfl ?_
      have q9 := qSw_d (-1 - v).toNat
      refine zF_I (b := (((-1 - v).toNat : Nat) : Int)) (by omega) ?_
      refine zF_proparr 26 dX7_valueFor_25 rfl hO (by omega) ?_
      refine zF_ordinal 29 (j := (-1 - v).toNat) rfl dX7_valueFor_26 rfl hO (by omega) (by omega) (Nat.le_of_ble_eq_true rfl) ?_
      show zF G mX7_valueFor (d + 2) 29 [(3, zI ((-1) - v)), (0, zR (B 40)), (1, zI v), (2, zI a)] [zI (((-1 - v).toNat : Nat) : Int), zR (zbg + 301)] σ _
      refine zF_swmap 30 dX7_valueFor_29 rfl hO (by omega) ?_
      rcases Decidable.em ((qSw (-1 - v).toNat) = 1) with sw3 | sw3x1
      · refine zF_swIn 76 dX7_valueFor_30 (by constructor <;> omega) (by omega) (by omega) (by rw [sw3]; rfl) rfl ?_
        refine zF_iload_n 77 dX7_valueFor_76 rfl rfl ?_
        exact zF_iretP dX7_valueFor_77 rfl ((by unfold qPv qPn; rw [if_neg (by omega : ¬ 0 ≤ v)]; first | (rw [if_pos (by omega)]) | (rw [if_neg (by omega), if_pos (by omega)]) | (rw [if_neg (by omega), if_neg (by omega), if_pos (by omega)]) | (rw [if_neg (by omega), if_neg (by omega), if_neg (by omega), if_pos (by omega)]) | (rw [if_neg (by omega), if_neg (by omega), if_neg (by omega), if_neg (by omega), if_pos (by omega)]) | (rw [if_neg (by omega), if_neg (by omega), if_neg (by omega), if_neg (by omega), if_neg (by omega), if_pos (by omega)]) | (rw [if_neg (by omega), if_neg (by omega), if_neg (by omega), if_neg (by omega), if_neg (by omega), if_neg (by omega), if_pos (by omega)]) | (rw [if_neg (by omega), if_neg (by omega), if_neg (by omega), if_neg (by omega), if_neg (by omega), if_neg (by omega), if_neg (by omega), if_pos (by omega)]) | (rw [if_neg (by omega), if_neg (by omega), if_neg (by omega), if_neg (by omega), if_neg (by omega), if_neg (by omega), if_neg (by omega), if_neg (by omega)]; rfl)))
      rcases Decidable.em ((qSw (-1 - v).toNat) = 2) with sw3 | sw3x2
      · refine zF_swIn 78 dX7_valueFor_30 (by constructor <;> omega) (by omega) (by omega) (by rw [sw3]; rfl) rfl ?_
        refine zF_aload_n 79 dX7_valueFor_78 rfl rfl ?_
        refine zF_getR 82 dX7_valueFor_79 rfl gX7_15 hq.1 hq.2.1 hq.2.2.2.1 ?_
        refine zF_getR 85 dX7_valueFor_82 rfl gX7_135 hB.ch.1 hB.ch.2.1 (cB_104 hB).1 ?_
        refine zF_iload_n 86 dX7_valueFor_85 rfl rfl ?_
        refine zF_iaload 87 dX7_valueFor_86 rfl (cB_104 hB).2.2 (cB_104 hB).2.1 (by omega) (by omega) (hR.c.2.2.1 _ (by omega) (by omega)).1 ?_
        exact zF_iretP dX7_valueFor_87 rfl ((by unfold qPv qPn; rw [if_neg (by omega : ¬ 0 ≤ v)]; first | (rw [if_pos (by omega)]) | (rw [if_neg (by omega), if_pos (by omega)]) | (rw [if_neg (by omega), if_neg (by omega), if_pos (by omega)]) | (rw [if_neg (by omega), if_neg (by omega), if_neg (by omega), if_pos (by omega)]) | (rw [if_neg (by omega), if_neg (by omega), if_neg (by omega), if_neg (by omega), if_pos (by omega)]) | (rw [if_neg (by omega), if_neg (by omega), if_neg (by omega), if_neg (by omega), if_neg (by omega), if_pos (by omega)]) | (rw [if_neg (by omega), if_neg (by omega), if_neg (by omega), if_neg (by omega), if_neg (by omega), if_neg (by omega), if_pos (by omega)]) | (rw [if_neg (by omega), if_neg (by omega), if_neg (by omega), if_neg (by omega), if_neg (by omega), if_neg (by omega), if_neg (by omega), if_pos (by omega)]) | (rw [if_neg (by omega), if_neg (by omega), if_neg (by omega), if_neg (by omega), if_neg (by omega), if_neg (by omega), if_neg (by omega), if_neg (by omega)]; rfl)))
      rcases Decidable.em ((qSw (-1 - v).toNat) = 3) with sw3 | sw3x3
      · refine zF_swIn 88 dX7_valueFor_30 (by constructor <;> omega) (by omega) (by omega) (by rw [sw3]; rfl) rfl ?_
        refine zF_aload_n 89 dX7_valueFor_88 rfl rfl ?_
        refine zF_getR 92 dX7_valueFor_89 rfl gX7_15 hq.1 hq.2.1 hq.2.2.2.1 ?_
        refine zF_getR 95 dX7_valueFor_92 rfl gX7_138 hB.ch.1 hB.ch.2.1 (cB_105 hB).1 ?_
        refine zF_iload_n 96 dX7_valueFor_95 rfl rfl ?_
        refine zF_iaload 97 dX7_valueFor_96 rfl (cB_105 hB).2.2 (cB_105 hB).2.1 (by omega) (by omega) (hR.c.2.2.1 _ (by omega) (by omega)).2.1 ?_
        exact zF_iretP dX7_valueFor_97 rfl ((by unfold qPv qPn; rw [if_neg (by omega : ¬ 0 ≤ v)]; first | (rw [if_pos (by omega)]) | (rw [if_neg (by omega), if_pos (by omega)]) | (rw [if_neg (by omega), if_neg (by omega), if_pos (by omega)]) | (rw [if_neg (by omega), if_neg (by omega), if_neg (by omega), if_pos (by omega)]) | (rw [if_neg (by omega), if_neg (by omega), if_neg (by omega), if_neg (by omega), if_pos (by omega)]) | (rw [if_neg (by omega), if_neg (by omega), if_neg (by omega), if_neg (by omega), if_neg (by omega), if_pos (by omega)]) | (rw [if_neg (by omega), if_neg (by omega), if_neg (by omega), if_neg (by omega), if_neg (by omega), if_neg (by omega), if_pos (by omega)]) | (rw [if_neg (by omega), if_neg (by omega), if_neg (by omega), if_neg (by omega), if_neg (by omega), if_neg (by omega), if_neg (by omega), if_pos (by omega)]) | (rw [if_neg (by omega), if_neg (by omega), if_neg (by omega), if_neg (by omega), if_neg (by omega), if_neg (by omega), if_neg (by omega), if_neg (by omega)]; rfl)))
      rcases Decidable.em ((qSw (-1 - v).toNat) = 4) with sw3 | sw3x4
      · refine zF_swIn 98 dX7_valueFor_30 (by constructor <;> omega) (by omega) (by omega) (by rw [sw3]; rfl) rfl ?_
        refine zF_aload_n 99 dX7_valueFor_98 rfl rfl ?_
        refine zF_getR 102 dX7_valueFor_99 rfl gX7_15 hq.1 hq.2.1 hq.2.2.2.1 ?_
        refine zF_iload_n 103 dX7_valueFor_102 rfl rfl ?_
        refine zF_callVi 106 (d2 := (d + 1)) (as := [zI a]) dX7_valueFor_103 rfl kX7_141 iX1_capacityOf (ci := 1) rfl eX1_capacityOf (Nat.le_refl _) hB.ch.1 hB.ch.2.1 rfl rfl (Nat.le_of_ble_eq_true rfl) (zt_X1_capacityOf hB hR hV (by omega) (by omega)) ?_
        exact zF_iretP dX7_valueFor_106 rfl ((by unfold qPv qPn; rw [if_neg (by omega : ¬ 0 ≤ v)]; first | (rw [if_pos (by omega)]) | (rw [if_neg (by omega), if_pos (by omega)]) | (rw [if_neg (by omega), if_neg (by omega), if_pos (by omega)]) | (rw [if_neg (by omega), if_neg (by omega), if_neg (by omega), if_pos (by omega)]) | (rw [if_neg (by omega), if_neg (by omega), if_neg (by omega), if_neg (by omega), if_pos (by omega)]) | (rw [if_neg (by omega), if_neg (by omega), if_neg (by omega), if_neg (by omega), if_neg (by omega), if_pos (by omega)]) | (rw [if_neg (by omega), if_neg (by omega), if_neg (by omega), if_neg (by omega), if_neg (by omega), if_neg (by omega), if_pos (by omega)]) | (rw [if_neg (by omega), if_neg (by omega), if_neg (by omega), if_neg (by omega), if_neg (by omega), if_neg (by omega), if_neg (by omega), if_pos (by omega)]) | (rw [if_neg (by omega), if_neg (by omega), if_neg (by omega), if_neg (by omega), if_neg (by omega), if_neg (by omega), if_neg (by omega), if_neg (by omega)]; rfl)))
      rcases Decidable.em ((qSw (-1 - v).toNat) = 5) with sw3 | sw3x5
      · refine zF_swIn 107 dX7_valueFor_30 (by constructor <;> omega) (by omega) (by omega) (by rw [sw3]; rfl) rfl ?_
        refine zF_aload_n 108 dX7_valueFor_107 rfl rfl ?_
        refine zF_getR 111 dX7_valueFor_108 rfl gX7_19 hq.1 hq.2.1 hq.2.2.2.2.1 ?_
        refine zF_getR 114 dX7_valueFor_111 rfl gX7_144 hB.st.1 hB.st.2.1 (cB_204 hB).1 ?_
        refine zF_iload_n 115 dX7_valueFor_114 rfl rfl ?_
        refine zF_iaload 116 dX7_valueFor_115 rfl (cB_204 hB).2.2 (cB_204 hB).2.1 (by omega) (by omega) (hR.s.2.2.1 _ (by omega) (by omega)).1 ?_
        exact zF_iretP dX7_valueFor_116 rfl ((by unfold qPv qPn; rw [if_neg (by omega : ¬ 0 ≤ v)]; first | (rw [if_pos (by omega)]) | (rw [if_neg (by omega), if_pos (by omega)]) | (rw [if_neg (by omega), if_neg (by omega), if_pos (by omega)]) | (rw [if_neg (by omega), if_neg (by omega), if_neg (by omega), if_pos (by omega)]) | (rw [if_neg (by omega), if_neg (by omega), if_neg (by omega), if_neg (by omega), if_pos (by omega)]) | (rw [if_neg (by omega), if_neg (by omega), if_neg (by omega), if_neg (by omega), if_neg (by omega), if_pos (by omega)]) | (rw [if_neg (by omega), if_neg (by omega), if_neg (by omega), if_neg (by omega), if_neg (by omega), if_neg (by omega), if_pos (by omega)]) | (rw [if_neg (by omega), if_neg (by omega), if_neg (by omega), if_neg (by omega), if_neg (by omega), if_neg (by omega), if_neg (by omega), if_pos (by omega)]) | (rw [if_neg (by omega), if_neg (by omega), if_neg (by omega), if_neg (by omega), if_neg (by omega), if_neg (by omega), if_neg (by omega), if_neg (by omega)]; rfl)))
      rcases Decidable.em ((qSw (-1 - v).toNat) = 6) with sw3 | sw3x6
      · refine zF_swIn 117 dX7_valueFor_30 (by constructor <;> omega) (by omega) (by omega) (by rw [sw3]; rfl) rfl ?_
        refine zF_aload_n 118 dX7_valueFor_117 rfl rfl ?_
        refine zF_iload_n 119 dX7_valueFor_118 rfl rfl ?_
        refine zF_callVi 122 (d2 := (d + 1)) (as := [zI a]) dX7_valueFor_119 rfl kX7_149 iX7_bookedAs (ci := 7) rfl eX7_bookedAs (Nat.le_refl _) hq.1 hq.2.1 rfl rfl (Nat.le_of_ble_eq_true rfl) (zt_X7_bookedAs hq hB hR hV hX (by omega) (by omega)) ?_
        exact zF_iretP dX7_valueFor_122 rfl ((by unfold qPv qPn; rw [if_neg (by omega : ¬ 0 ≤ v)]; first | (rw [if_pos (by omega)]) | (rw [if_neg (by omega), if_pos (by omega)]) | (rw [if_neg (by omega), if_neg (by omega), if_pos (by omega)]) | (rw [if_neg (by omega), if_neg (by omega), if_neg (by omega), if_pos (by omega)]) | (rw [if_neg (by omega), if_neg (by omega), if_neg (by omega), if_neg (by omega), if_pos (by omega)]) | (rw [if_neg (by omega), if_neg (by omega), if_neg (by omega), if_neg (by omega), if_neg (by omega), if_pos (by omega)]) | (rw [if_neg (by omega), if_neg (by omega), if_neg (by omega), if_neg (by omega), if_neg (by omega), if_neg (by omega), if_pos (by omega)]) | (rw [if_neg (by omega), if_neg (by omega), if_neg (by omega), if_neg (by omega), if_neg (by omega), if_neg (by omega), if_neg (by omega), if_pos (by omega)]) | (rw [if_neg (by omega), if_neg (by omega), if_neg (by omega), if_neg (by omega), if_neg (by omega), if_neg (by omega), if_neg (by omega), if_neg (by omega)]; rfl)))
      rcases Decidable.em ((qSw (-1 - v).toNat) = 7) with sw3 | sw3x7
      · refine zF_swIn 123 dX7_valueFor_30 (by constructor <;> omega) (by omega) (by omega) (by rw [sw3]; rfl) rfl ?_
        refine zF_aload_n 124 dX7_valueFor_123 rfl rfl ?_
        refine zF_getR 127 dX7_valueFor_124 rfl gX7_19 hq.1 hq.2.1 hq.2.2.2.2.1 ?_
        refine zF_getR 130 dX7_valueFor_127 rfl gX7_152 hB.st.1 hB.st.2.1 (cB_209 hB).1 ?_
        refine zF_iload_n 131 dX7_valueFor_130 rfl rfl ?_
        refine zF_iaload 132 dX7_valueFor_131 rfl (cB_209 hB).2.2 (cB_209 hB).2.1 (by omega) (by omega) (hR.s.2.2.1 _ (by omega) (by omega)).2.2.2.2 ?_
        exact zF_iretP dX7_valueFor_132 rfl ((by unfold qPv qPn; rw [if_neg (by omega : ¬ 0 ≤ v)]; first | (rw [if_pos (by omega)]) | (rw [if_neg (by omega), if_pos (by omega)]) | (rw [if_neg (by omega), if_neg (by omega), if_pos (by omega)]) | (rw [if_neg (by omega), if_neg (by omega), if_neg (by omega), if_pos (by omega)]) | (rw [if_neg (by omega), if_neg (by omega), if_neg (by omega), if_neg (by omega), if_pos (by omega)]) | (rw [if_neg (by omega), if_neg (by omega), if_neg (by omega), if_neg (by omega), if_neg (by omega), if_pos (by omega)]) | (rw [if_neg (by omega), if_neg (by omega), if_neg (by omega), if_neg (by omega), if_neg (by omega), if_neg (by omega), if_pos (by omega)]) | (rw [if_neg (by omega), if_neg (by omega), if_neg (by omega), if_neg (by omega), if_neg (by omega), if_neg (by omega), if_neg (by omega), if_pos (by omega)]) | (rw [if_neg (by omega), if_neg (by omega), if_neg (by omega), if_neg (by omega), if_neg (by omega), if_neg (by omega), if_neg (by omega), if_neg (by omega)]; rfl)))
      rcases Decidable.em ((qSw (-1 - v).toNat) = 8) with sw3 | sw3x8
      · refine zF_swIn 133 dX7_valueFor_30 (by constructor <;> omega) (by omega) (by omega) (by rw [sw3]; rfl) rfl ?_
        refine zF_aload_n 134 dX7_valueFor_133 rfl rfl ?_
        refine zF_getR 137 dX7_valueFor_134 rfl gX7_23 hq.1 hq.2.1 hq.2.2.2.2.2 ?_
        refine zF_iload_n 138 dX7_valueFor_137 rfl rfl ?_
        refine zF_callVi 141 (d2 := (d + 1)) (as := [zI a]) dX7_valueFor_138 rfl kX7_155 iX10_screenTakings (ci := 10) rfl eX10_screenTakings (Nat.le_refl _) hB.wk.1 hB.wk.2.1 rfl rfl (Nat.le_of_ble_eq_true rfl) (zt_X10_screenTakings hB hR hV hW (by omega) (by omega)) ?_
        exact zF_iretP dX7_valueFor_141 rfl ((by unfold qPv qPn; rw [if_neg (by omega : ¬ 0 ≤ v)]; first | (rw [if_pos (by omega)]) | (rw [if_neg (by omega), if_pos (by omega)]) | (rw [if_neg (by omega), if_neg (by omega), if_pos (by omega)]) | (rw [if_neg (by omega), if_neg (by omega), if_neg (by omega), if_pos (by omega)]) | (rw [if_neg (by omega), if_neg (by omega), if_neg (by omega), if_neg (by omega), if_pos (by omega)]) | (rw [if_neg (by omega), if_neg (by omega), if_neg (by omega), if_neg (by omega), if_neg (by omega), if_pos (by omega)]) | (rw [if_neg (by omega), if_neg (by omega), if_neg (by omega), if_neg (by omega), if_neg (by omega), if_neg (by omega), if_pos (by omega)]) | (rw [if_neg (by omega), if_neg (by omega), if_neg (by omega), if_neg (by omega), if_neg (by omega), if_neg (by omega), if_neg (by omega), if_pos (by omega)]) | (rw [if_neg (by omega), if_neg (by omega), if_neg (by omega), if_neg (by omega), if_neg (by omega), if_neg (by omega), if_neg (by omega), if_neg (by omega)]; rfl)))
      refine zF_swOut 142 dX7_valueFor_30 (by constructor <;> omega) (by omega) rfl ?_
      refine zF_aload_n 143 dX7_valueFor_142 rfl rfl ?_
      refine zF_getR 146 dX7_valueFor_143 rfl gX7_23 hq.1 hq.2.1 hq.2.2.2.2.2 ?_
      refine zF_iload_n 147 dX7_valueFor_146 rfl rfl ?_
      refine zF_iconst 148 dX7_valueFor_147 rfl ?_
      refine zF_callVi 151 (d2 := (d + 1)) (as := [zI a, zI 0]) dX7_valueFor_148 rfl kX7_160 iX10_visitorsSince (ci := 10) rfl eX10_visitorsSince (Nat.le_refl _) hB.wk.1 hB.wk.2.1 rfl rfl (Nat.le_of_ble_eq_true rfl) (zt_X10_visitorsSince hB hR hV (by omega) (by omega) (by omega) (by omega)) ?_
      exact zF_iretP dX7_valueFor_151 rfl ((by unfold qPv qPn; rw [if_neg (by omega : ¬ 0 ≤ v)]; first | (rw [if_pos (by omega)]) | (rw [if_neg (by omega), if_pos (by omega)]) | (rw [if_neg (by omega), if_neg (by omega), if_pos (by omega)]) | (rw [if_neg (by omega), if_neg (by omega), if_neg (by omega), if_pos (by omega)]) | (rw [if_neg (by omega), if_neg (by omega), if_neg (by omega), if_neg (by omega), if_pos (by omega)]) | (rw [if_neg (by omega), if_neg (by omega), if_neg (by omega), if_neg (by omega), if_neg (by omega), if_pos (by omega)]) | (rw [if_neg (by omega), if_neg (by omega), if_neg (by omega), if_neg (by omega), if_neg (by omega), if_neg (by omega), if_pos (by omega)]) | (rw [if_neg (by omega), if_neg (by omega), if_neg (by omega), if_neg (by omega), if_neg (by omega), if_neg (by omega), if_neg (by omega), if_pos (by omega)]) | (rw [if_neg (by omega), if_neg (by omega), if_neg (by omega), if_neg (by omega), if_neg (by omega), if_neg (by omega), if_neg (by omega), if_neg (by omega)]; rfl)))
    · refine zF_iload_n 17 dX7_valueFor_16 rfl rfl ?_
      exact zF_iretP dX7_valueFor_17 rfl ((by unfold qPv; exact (if_pos (by omega)).symm))
end ZCV

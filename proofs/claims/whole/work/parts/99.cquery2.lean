/-! the class: query -/
section ZCX
variable {G : zG} {d : Nat} {σ σ0 σ1 : zMem} {B : Nat → Nat} {N : Int → Int} {t : Int → Int} {L : Nat} {s : tS}
def popN (m : Nat) : Int := zsum (fun k => if m.testBit k.toNat = true then 1 else 0) 10
theorem zsum_ext {y : Int → Int} {n : Nat} : ∀ m : Nat, n ≤ m → (∀ k : Nat, n ≤ k → k < m → y (k : Int) = 0) → zsum y m = zsum y n := fun m => by
  induction m with
  | zero => intro h _; rw [Nat.le_zero.mp h]
  | succ m ih =>
    intro h k
    by_cases e : n = m + 1
    · rw [e]
    · have a : zsum y (m + 1) = zsum y m + y (m : Int) := rfl
      rw [a, k m (by omega) (by omega), Int.add_zero]
      exact ih (by omega) fun i h1 h2 => k i h1 (by omega)
theorem popN_eq {m n : Nat} {f : Int → Int} (hm : m < 2 ^ n) (hn : n ≤ 10) (h : ∀ k : Nat, k < n → (m.testBit k = true ↔ f (k : Int) = 1)) : popN m = zsum (fun x => zb (f x = 1)) n := by
  unfold popN
  rw [zsum_ext (n := n) 10 hn fun k h1 h2 => by
    rw [Int.toNat_natCast, Nat.testBit_lt_two_pow (Nat.lt_of_lt_of_le hm (Nat.pow_le_pow_right (by decide) h1))]
    rfl]
  refine zsum_congr fun i hi => ?_
  rw [Int.toNat_natCast]
  by_cases q : f (i : Int) = 1
  · rw [if_pos ((h i hi).mpr q)]; exact zbT q
  · rw [if_neg (fun z => q ((h i hi).mp z))]; exact zbF q
theorem qFst_congr {f g : Int → Int} : ∀ (n i : Nat), (∀ k : Nat, i ≤ k → k < i + n → (f (k : Int) = 1 ↔ g (k : Int) = 1)) → qFst f n i = qFst g n i := fun n => by
  induction n with
  | zero => intro i _; rfl
  | succ n ih =>
    intro i h
    have a := h i (Nat.le_refl _) (by omega)
    have b := ih (i + 1) fun k h1 h2 => h k (by omega) (by omega)
    show (if f (i : Int) = 1 then (i : Int) else qFst f n (i + 1)) = (if g (i : Int) = 1 then (i : Int) else qFst g n (i + 1))
    rw [b]
    by_cases q : f (i : Int) = 1
    · rw [if_pos q, if_pos (a.mp q)]
    · rw [if_neg q, if_neg (fun z => q (a.mpr z))]
theorem fBt_1 {m k : Nat} : fBt m (k : Int) = 1 ↔ m.testBit k = true := by
  unfold fBt
  rw [Int.toNat_natCast]
  cases m.testBit k
  · exact ⟨fun z => absurd z (by decide), fun z => absurd z (by decide)⟩
  · exact ⟨fun _ => rfl, fun _ => rfl⟩
theorem qA0_0 (h : (qE t L).2 = 0) : tWd t L (zsbi 25) (0, 0) ∨ tWd t L (zsbi 26) (0, 0) := by
  have a := ((qI_test (t := t) (L := L) (qI_fac 6)) (qA0 t L) qA0_p).2 (qE_0 h).1
  refine Decidable.byContradiction fun c => ?_
  have e : qA0 t L = tFail 1 (0, 0) := if_neg c
  rw [e] at a
  exact absurd a.1 (tFail_2 (by decide))
theorem qAns_many {m : Nat} (h : (qE t L).2 = 0) (hw : tWd t L (zsbi 25) (0, 0)) (hm : m < 2 ^ nS N) (hn : nS N ≤ 10) (hk : (qY t L).2.2 = 0 → mOK N (qY t L).1 m) : popN m = qAns N t L := by
  unfold qAns
  rw [if_neg (fun z => z h), if_neg (qWd_x hw)]
  exact popN_eq hm hn (hk (qE_0 h).1)
theorem qAns_first {m : Nat} (h : (qE t L).2 = 0) (hw : ¬ tWd t L (zsbi 25) (0, 0)) (hk : (qY t L).2.2 = 0 → mOK N (qY t L).1 m) : qFst (fBt m) (nS N) 0 = qAns N t L := by
  unfold qAns
  rw [if_neg (fun z => z h), if_pos ((qA0_0 h).resolve_left hw)]
  exact qFst_congr _ _ fun k _ h2 => by rw [fBt_1]; exact hk (qE_0 h).1 k (by omega)
/-- what a query of the class's may change -/
def PQc (B : Nat → Nat) (h : Nat) (j : Int) : Prop := PTk B h j ∨ PFr B h j
theorem bc_all10 : ∀ m : Fin 1024, ((Int32.ofInt ((((Int32.ofInt ((((Int32.ofInt (((m : Nat) : Int) - ((Int32.ofInt (zush ((m : Nat) : Int) 1) &&& Int32.ofInt (1431655765)).toInt)) &&& Int32.ofInt (858993459)).toInt) + ((Int32.ofInt (zush (((m : Nat) : Int) - ((Int32.ofInt (zush ((m : Nat) : Int) 1) &&& Int32.ofInt (1431655765)).toInt)) 2) &&& Int32.ofInt (858993459)).toInt)) + (zush (((Int32.ofInt (((m : Nat) : Int) - ((Int32.ofInt (zush ((m : Nat) : Int) 1) &&& Int32.ofInt (1431655765)).toInt)) &&& Int32.ofInt (858993459)).toInt) + ((Int32.ofInt (zush (((m : Nat) : Int) - ((Int32.ofInt (zush ((m : Nat) : Int) 1) &&& Int32.ofInt (1431655765)).toInt)) 2) &&& Int32.ofInt (858993459)).toInt)) 4)) &&& Int32.ofInt (252645135)).toInt) + (zush ((Int32.ofInt ((((Int32.ofInt (((m : Nat) : Int) - ((Int32.ofInt (zush ((m : Nat) : Int) 1) &&& Int32.ofInt (1431655765)).toInt)) &&& Int32.ofInt (858993459)).toInt) + ((Int32.ofInt (zush (((m : Nat) : Int) - ((Int32.ofInt (zush ((m : Nat) : Int) 1) &&& Int32.ofInt (1431655765)).toInt)) 2) &&& Int32.ofInt (858993459)).toInt)) + (zush (((Int32.ofInt (((m : Nat) : Int) - ((Int32.ofInt (zush ((m : Nat) : Int) 1) &&& Int32.ofInt (1431655765)).toInt)) &&& Int32.ofInt (858993459)).toInt) + ((Int32.ofInt (zush (((m : Nat) : Int) - ((Int32.ofInt (zush ((m : Nat) : Int) 1) &&& Int32.ofInt (1431655765)).toInt)) 2) &&& Int32.ofInt (858993459)).toInt)) 4)) &&& Int32.ofInt (252645135)).toInt) 8)) + (zush (((Int32.ofInt ((((Int32.ofInt (((m : Nat) : Int) - ((Int32.ofInt (zush ((m : Nat) : Int) 1) &&& Int32.ofInt (1431655765)).toInt)) &&& Int32.ofInt (858993459)).toInt) + ((Int32.ofInt (zush (((m : Nat) : Int) - ((Int32.ofInt (zush ((m : Nat) : Int) 1) &&& Int32.ofInt (1431655765)).toInt)) 2) &&& Int32.ofInt (858993459)).toInt)) + (zush (((Int32.ofInt (((m : Nat) : Int) - ((Int32.ofInt (zush ((m : Nat) : Int) 1) &&& Int32.ofInt (1431655765)).toInt)) &&& Int32.ofInt (858993459)).toInt) + ((Int32.ofInt (zush (((m : Nat) : Int) - ((Int32.ofInt (zush ((m : Nat) : Int) 1) &&& Int32.ofInt (1431655765)).toInt)) 2) &&& Int32.ofInt (858993459)).toInt)) 4)) &&& Int32.ofInt (252645135)).toInt) + (zush ((Int32.ofInt ((((Int32.ofInt (((m : Nat) : Int) - ((Int32.ofInt (zush ((m : Nat) : Int) 1) &&& Int32.ofInt (1431655765)).toInt)) &&& Int32.ofInt (858993459)).toInt) + ((Int32.ofInt (zush (((m : Nat) : Int) - ((Int32.ofInt (zush ((m : Nat) : Int) 1) &&& Int32.ofInt (1431655765)).toInt)) 2) &&& Int32.ofInt (858993459)).toInt)) + (zush (((Int32.ofInt (((m : Nat) : Int) - ((Int32.ofInt (zush ((m : Nat) : Int) 1) &&& Int32.ofInt (1431655765)).toInt)) &&& Int32.ofInt (858993459)).toInt) + ((Int32.ofInt (zush (((m : Nat) : Int) - ((Int32.ofInt (zush ((m : Nat) : Int) 1) &&& Int32.ofInt (1431655765)).toInt)) 2) &&& Int32.ofInt (858993459)).toInt)) 4)) &&& Int32.ofInt (252645135)).toInt) 8)) 16)) &&& Int32.ofInt 63).toInt) = popN m := by decide +kernel
theorem zt_J6_bitCount10 {m : Nat} (hm : m < 1024) : zP1 G mJ6_bitCount_0f7a4 d [zI ((m : Nat) : Int)] σ (popN m) := by
  have hbc := bc_all10 ⟨m, hm⟩
  refine zE_of rfl (by simp [zcat]) (Nat.le_of_ble_eq_true rfl) ?_
  show zF G mJ6_bitCount_0f7a4 d 0 [(0, zI ((m : Nat) : Int))] [] σ _
  refine zF_iload_n 1 dJ6_bitCount_0f7a4_0 rfl rfl ?_
  refine zF_iload_n 2 dJ6_bitCount_0f7a4_1 rfl rfl ?_
  refine zF_iconst 3 dJ6_bitCount_0f7a4_2 rfl ?_
  refine zF_iushr 4 dJ6_bitCount_0f7a4_3 rfl ?_
  refine zF_ldcw 7 dJ6_bitCount_0f7a4_4 rfl oJ6_265 ?_
  refine zF_iand 8 dJ6_bitCount_0f7a4_7 rfl ?_
  refine zF_isub 9 dJ6_bitCount_0f7a4_8 rfl ?_
  refine zF_istore_n 10 (ls' := [(0, zI (((m : Nat) : Int) - ((Int32.ofInt (zush ((m : Nat) : Int) 1) &&& Int32.ofInt (1431655765)).toInt)))]) dJ6_bitCount_0f7a4_9 rfl (by decide) rfl ?_
  refine zF_iload_n 11 dJ6_bitCount_0f7a4_10 rfl rfl ?_
  refine zF_ldcw 14 dJ6_bitCount_0f7a4_11 rfl oJ6_266 ?_
  refine zF_iand 15 dJ6_bitCount_0f7a4_14 rfl ?_
  refine zF_iload_n 16 dJ6_bitCount_0f7a4_15 rfl rfl ?_
  refine zF_iconst 17 dJ6_bitCount_0f7a4_16 rfl ?_
  refine zF_iushr 18 dJ6_bitCount_0f7a4_17 rfl ?_
  refine zF_ldcw 21 dJ6_bitCount_0f7a4_18 rfl oJ6_266 ?_
  refine zF_iand 22 dJ6_bitCount_0f7a4_21 rfl ?_
  refine zF_iadd 23 dJ6_bitCount_0f7a4_22 rfl ?_
  refine zF_istore_n 24 (ls' := [(0, zI (((Int32.ofInt (((m : Nat) : Int) - ((Int32.ofInt (zush ((m : Nat) : Int) 1) &&& Int32.ofInt (1431655765)).toInt)) &&& Int32.ofInt (858993459)).toInt) + ((Int32.ofInt (zush (((m : Nat) : Int) - ((Int32.ofInt (zush ((m : Nat) : Int) 1) &&& Int32.ofInt (1431655765)).toInt)) 2) &&& Int32.ofInt (858993459)).toInt)))]) dJ6_bitCount_0f7a4_23 rfl (by decide) rfl ?_
  refine zF_iload_n 25 dJ6_bitCount_0f7a4_24 rfl rfl ?_
  refine zF_iload_n 26 dJ6_bitCount_0f7a4_25 rfl rfl ?_
  refine zF_iconst 27 dJ6_bitCount_0f7a4_26 rfl ?_
  refine zF_iushr 28 dJ6_bitCount_0f7a4_27 rfl ?_
  refine zF_iadd 29 dJ6_bitCount_0f7a4_28 rfl ?_
  refine zF_ldcw 32 dJ6_bitCount_0f7a4_29 rfl oJ6_267 ?_
  refine zF_iand 33 dJ6_bitCount_0f7a4_32 rfl ?_
  refine zF_istore_n 34 (ls' := [(0, zI ((Int32.ofInt ((((Int32.ofInt (((m : Nat) : Int) - ((Int32.ofInt (zush ((m : Nat) : Int) 1) &&& Int32.ofInt (1431655765)).toInt)) &&& Int32.ofInt (858993459)).toInt) + ((Int32.ofInt (zush (((m : Nat) : Int) - ((Int32.ofInt (zush ((m : Nat) : Int) 1) &&& Int32.ofInt (1431655765)).toInt)) 2) &&& Int32.ofInt (858993459)).toInt)) + (zush (((Int32.ofInt (((m : Nat) : Int) - ((Int32.ofInt (zush ((m : Nat) : Int) 1) &&& Int32.ofInt (1431655765)).toInt)) &&& Int32.ofInt (858993459)).toInt) + ((Int32.ofInt (zush (((m : Nat) : Int) - ((Int32.ofInt (zush ((m : Nat) : Int) 1) &&& Int32.ofInt (1431655765)).toInt)) 2) &&& Int32.ofInt (858993459)).toInt)) 4)) &&& Int32.ofInt (252645135)).toInt))]) dJ6_bitCount_0f7a4_33 rfl (by decide) rfl ?_
  refine zF_iload_n 35 dJ6_bitCount_0f7a4_34 rfl rfl ?_
  refine zF_iload_n 36 dJ6_bitCount_0f7a4_35 rfl rfl ?_
  refine zF_bipush 38 dJ6_bitCount_0f7a4_36 rfl (by decide) ?_
  refine zF_iushr 39 dJ6_bitCount_0f7a4_38 rfl ?_
  refine zF_iadd 40 dJ6_bitCount_0f7a4_39 rfl ?_
  refine zF_istore_n 41 (ls' := [(0, zI (((Int32.ofInt ((((Int32.ofInt (((m : Nat) : Int) - ((Int32.ofInt (zush ((m : Nat) : Int) 1) &&& Int32.ofInt (1431655765)).toInt)) &&& Int32.ofInt (858993459)).toInt) + ((Int32.ofInt (zush (((m : Nat) : Int) - ((Int32.ofInt (zush ((m : Nat) : Int) 1) &&& Int32.ofInt (1431655765)).toInt)) 2) &&& Int32.ofInt (858993459)).toInt)) + (zush (((Int32.ofInt (((m : Nat) : Int) - ((Int32.ofInt (zush ((m : Nat) : Int) 1) &&& Int32.ofInt (1431655765)).toInt)) &&& Int32.ofInt (858993459)).toInt) + ((Int32.ofInt (zush (((m : Nat) : Int) - ((Int32.ofInt (zush ((m : Nat) : Int) 1) &&& Int32.ofInt (1431655765)).toInt)) 2) &&& Int32.ofInt (858993459)).toInt)) 4)) &&& Int32.ofInt (252645135)).toInt) + (zush ((Int32.ofInt ((((Int32.ofInt (((m : Nat) : Int) - ((Int32.ofInt (zush ((m : Nat) : Int) 1) &&& Int32.ofInt (1431655765)).toInt)) &&& Int32.ofInt (858993459)).toInt) + ((Int32.ofInt (zush (((m : Nat) : Int) - ((Int32.ofInt (zush ((m : Nat) : Int) 1) &&& Int32.ofInt (1431655765)).toInt)) 2) &&& Int32.ofInt (858993459)).toInt)) + (zush (((Int32.ofInt (((m : Nat) : Int) - ((Int32.ofInt (zush ((m : Nat) : Int) 1) &&& Int32.ofInt (1431655765)).toInt)) &&& Int32.ofInt (858993459)).toInt) + ((Int32.ofInt (zush (((m : Nat) : Int) - ((Int32.ofInt (zush ((m : Nat) : Int) 1) &&& Int32.ofInt (1431655765)).toInt)) 2) &&& Int32.ofInt (858993459)).toInt)) 4)) &&& Int32.ofInt (252645135)).toInt) 8)))]) dJ6_bitCount_0f7a4_40 rfl (by decide) rfl ?_
  refine zF_iload_n 42 dJ6_bitCount_0f7a4_41 rfl rfl ?_
  refine zF_iload_n 43 dJ6_bitCount_0f7a4_42 rfl rfl ?_
  refine zF_bipush 45 dJ6_bitCount_0f7a4_43 rfl (by decide) ?_
  refine zF_iushr 46 dJ6_bitCount_0f7a4_45 rfl ?_
  refine zF_iadd 47 dJ6_bitCount_0f7a4_46 rfl ?_
  refine zF_istore_n 48 (ls' := [(0, zI ((((Int32.ofInt ((((Int32.ofInt (((m : Nat) : Int) - ((Int32.ofInt (zush ((m : Nat) : Int) 1) &&& Int32.ofInt (1431655765)).toInt)) &&& Int32.ofInt (858993459)).toInt) + ((Int32.ofInt (zush (((m : Nat) : Int) - ((Int32.ofInt (zush ((m : Nat) : Int) 1) &&& Int32.ofInt (1431655765)).toInt)) 2) &&& Int32.ofInt (858993459)).toInt)) + (zush (((Int32.ofInt (((m : Nat) : Int) - ((Int32.ofInt (zush ((m : Nat) : Int) 1) &&& Int32.ofInt (1431655765)).toInt)) &&& Int32.ofInt (858993459)).toInt) + ((Int32.ofInt (zush (((m : Nat) : Int) - ((Int32.ofInt (zush ((m : Nat) : Int) 1) &&& Int32.ofInt (1431655765)).toInt)) 2) &&& Int32.ofInt (858993459)).toInt)) 4)) &&& Int32.ofInt (252645135)).toInt) + (zush ((Int32.ofInt ((((Int32.ofInt (((m : Nat) : Int) - ((Int32.ofInt (zush ((m : Nat) : Int) 1) &&& Int32.ofInt (1431655765)).toInt)) &&& Int32.ofInt (858993459)).toInt) + ((Int32.ofInt (zush (((m : Nat) : Int) - ((Int32.ofInt (zush ((m : Nat) : Int) 1) &&& Int32.ofInt (1431655765)).toInt)) 2) &&& Int32.ofInt (858993459)).toInt)) + (zush (((Int32.ofInt (((m : Nat) : Int) - ((Int32.ofInt (zush ((m : Nat) : Int) 1) &&& Int32.ofInt (1431655765)).toInt)) &&& Int32.ofInt (858993459)).toInt) + ((Int32.ofInt (zush (((m : Nat) : Int) - ((Int32.ofInt (zush ((m : Nat) : Int) 1) &&& Int32.ofInt (1431655765)).toInt)) 2) &&& Int32.ofInt (858993459)).toInt)) 4)) &&& Int32.ofInt (252645135)).toInt) 8)) + (zush (((Int32.ofInt ((((Int32.ofInt (((m : Nat) : Int) - ((Int32.ofInt (zush ((m : Nat) : Int) 1) &&& Int32.ofInt (1431655765)).toInt)) &&& Int32.ofInt (858993459)).toInt) + ((Int32.ofInt (zush (((m : Nat) : Int) - ((Int32.ofInt (zush ((m : Nat) : Int) 1) &&& Int32.ofInt (1431655765)).toInt)) 2) &&& Int32.ofInt (858993459)).toInt)) + (zush (((Int32.ofInt (((m : Nat) : Int) - ((Int32.ofInt (zush ((m : Nat) : Int) 1) &&& Int32.ofInt (1431655765)).toInt)) &&& Int32.ofInt (858993459)).toInt) + ((Int32.ofInt (zush (((m : Nat) : Int) - ((Int32.ofInt (zush ((m : Nat) : Int) 1) &&& Int32.ofInt (1431655765)).toInt)) 2) &&& Int32.ofInt (858993459)).toInt)) 4)) &&& Int32.ofInt (252645135)).toInt) + (zush ((Int32.ofInt ((((Int32.ofInt (((m : Nat) : Int) - ((Int32.ofInt (zush ((m : Nat) : Int) 1) &&& Int32.ofInt (1431655765)).toInt)) &&& Int32.ofInt (858993459)).toInt) + ((Int32.ofInt (zush (((m : Nat) : Int) - ((Int32.ofInt (zush ((m : Nat) : Int) 1) &&& Int32.ofInt (1431655765)).toInt)) 2) &&& Int32.ofInt (858993459)).toInt)) + (zush (((Int32.ofInt (((m : Nat) : Int) - ((Int32.ofInt (zush ((m : Nat) : Int) 1) &&& Int32.ofInt (1431655765)).toInt)) &&& Int32.ofInt (858993459)).toInt) + ((Int32.ofInt (zush (((m : Nat) : Int) - ((Int32.ofInt (zush ((m : Nat) : Int) 1) &&& Int32.ofInt (1431655765)).toInt)) 2) &&& Int32.ofInt (858993459)).toInt)) 4)) &&& Int32.ofInt (252645135)).toInt) 8)) 16)))]) dJ6_bitCount_0f7a4_47 rfl (by decide) rfl ?_
  refine zF_iload_n 49 dJ6_bitCount_0f7a4_48 rfl rfl ?_
  refine zF_bipush 51 dJ6_bitCount_0f7a4_49 rfl (by decide) ?_
  refine zF_iand 52 dJ6_bitCount_0f7a4_51 rfl ?_
  exact zF_iretP dJ6_bitCount_0f7a4_52 rfl (hbc)
theorem zq_rest7 (hG : zOS G) (hO : zOPr G) (hV : mV N) (hW : mW N) (hX : mX N) (hL2 : L ≤ 200) (hq : cQt σ B) (hB : cM σ B) (hR : cR N σ B) (hT : cTk σ B t L) (hs : cTs σ B t L (qA0 t L)) : zF G mX7_evaluate (d + 22) 42 [(2, zI (zb (tWd t L (zsbi 25) (0, 0)))), (0, zR (B 40)), (1, zI (L : Int))] [] σ (fun ro σ1 => ∃ x, ro = .inl (some (zI x)) ∧ zFr (PTk B) σ σ1 ∧ cTs σ1 B t L (qE t L) ∧ ((qE t L).2 = 0 → x = qAns N t L)) := by
  have eb := hs.2.2.2.2.2.2.2.2
  have hi := hB.inj
  have hn := hV.n
  have hnS := nS_eq hV
  have kbY := tk_b t L (qY t L).2.1
  refine zF_aload_n 43 dX7_evaluate_42 rfl rfl ?_
  refine zF_iconst 44 dX7_evaluate_43 rfl ?_
  refine zF_callV 47 (d2 := (d + 21)) (as := [zI 0]) dX7_evaluate_44 rfl kX7_44 iX7_readTest (ci := 7) rfl eX7_readTest (Nat.le_refl _) hq.1 hq.2.1 rfl rfl (Nat.le_of_ble_eq_true rfl) (zE.mono (zq_all7 hG hO hV hW hX hL2 _ σ (qA0 t L) (by omega) hq hB hR hT hs) fun ro σg1 hh1 => ?_)
  obtain ⟨m1, er1, fr1, p1, q1⟩ := hh1
  subst er1
  refine ⟨fr1.1, ?_⟩
  show zF G mX7_evaluate (d + 22) 47 [(2, zI (zb (tWd t L (zsbi 25) (0, 0)))), (0, zR (B 40)), (1, zI (L : Int))] [zI ((m1 : Nat) : Int)] σg1 _
  have hB1a := cM_fr hB fr1
  have hR1a := PTk_cR hi fr1 hR
  have hT1a := cTk_ad hT fr1
  have hq1a := cQt_fr hq fr1
  have hs1a : cTs σg1 B t L (qY t L).2 := p1
  have eb1 := hs1a.2.2.2.2.2.2.2.2
  replace q1 : m1 < 2 ^ nS N ∧ ((qY t L).2.2 = 0 → mOK N (qY t L).1 m1) := q1
  refine zF_istore_n 48 (ls' := [(3, zI ((m1 : Nat) : Int)), (2, zI (zb (tWd t L (zsbi 25) (0, 0)))), (0, zR (B 40)), (1, zI (L : Int))]) dX7_evaluate_47 rfl (by decide) rfl ?_
  refine zF_aload_n 49 dX7_evaluate_48 rfl rfl ?_
  refine zF_getR 52 dX7_evaluate_49 rfl gX7_9 hq1a.1 hq1a.2.1 hq1a.2.2.1 ?_
  refine zF_getI 55 dX7_evaluate_52 rfl gX7_48 (by decide) (by decide) hT1a.1 hT1a.2.1 hs1a.2.2.2.2.1 ?_
  refine zF_if_eq 66 58 dX7_evaluate_55 rfl rfl (by first | decide | assumption | (unfold tKd; split <;> constructor <;> omega) | (constructor <;> omega)) (fun c1 => ?_) (fun c1 => ?_)
  · refine zF_iload_n 67 dX7_evaluate_66 rfl rfl ?_
    refine zF_ifb_eq 77 70 dX7_evaluate_67 rfl rfl (fun c2 => ?_) (fun c2 => ?_)
    · refine zF_aload_n 78 dX7_evaluate_77 rfl rfl ?_
      refine zF_iload_n 79 dX7_evaluate_78 rfl rfl ?_
      refine zF_callVi 82 (d2 := (d + 21)) (as := [zI ((m1 : Nat) : Int)]) dX7_evaluate_79 rfl kX7_57 iX7_leastIn (ci := 7) rfl eX7_leastIn (Nat.le_refl _) hq1a.1 hq1a.2.1 rfl rfl (Nat.le_of_ble_eq_true rfl) (zt_X7_leastIn hq1a hB1a hR1a hV (m1024 q1.1 (by omega))) ?_
      exact zF_ireturn dX7_evaluate_82 rfl ((by
        have e9 : qE t L = (qY t L).2 := if_pos (by omega)
        refine ⟨_, rfl, fr1, ?_, fun z => qAns_first z (by assumption) q1.2⟩
        rw [e9]
        exact hs1a))
    · refine zF_iload_n 71 dX7_evaluate_70 rfl rfl ?_
      refine zF_callSi 74 (d2 := (d + 21)) (as := [zI ((m1 : Nat) : Int)]) dX7_evaluate_71 rfl kX7_52 sJ6_bitCount_0f7a4 (Nat.le_refl _) rfl rfl (Nat.le_of_ble_eq_true rfl) (zt_J6_bitCount10 (m1024 q1.1 (by omega))) ?_
      refine zF_goto 82 dX7_evaluate_74 rfl ?_
      exact zF_ireturn dX7_evaluate_82 rfl ((by
        have e9 : qE t L = (qY t L).2 := if_pos (by omega)
        refine ⟨_, rfl, fr1, ?_, fun z => qAns_many z (by assumption) q1.1 (by omega) q1.2⟩
        rw [e9]
        exact hs1a))
  · refine zF_aload_n 59 dX7_evaluate_58 rfl rfl ?_
    refine zF_getR 62 dX7_evaluate_59 rfl gX7_9 hq1a.1 hq1a.2.1 hq1a.2.2.1 ?_
    refine zF_iconst 63 dX7_evaluate_62 rfl ?_
    refine zF_callV 66 (d2 := (d + 21)) (as := [zI 1]) dX7_evaluate_63 rfl kX7_41 iX9_fail (ci := 9) rfl eX9_fail (Nat.le_refl _) hT1a.1 hT1a.2.1 rfl rfl (Nat.le_of_ble_eq_true rfl) (zE.mono (zt_X9_fail (σ := σg1) (c := 1) hT1a hs1a (by decide) (by decide)) fun ro σa2 hh2 => ?_)
    obtain ⟨er2, fr2, p2⟩ := hh2
    subst er2
    refine ⟨fr2.1, ?_⟩
    show zF G mX7_evaluate (d + 22) 66 [(3, zI ((m1 : Nat) : Int)), (2, zI (zb (tWd t L (zsbi 25) (0, 0)))), (0, zR (B 40)), (1, zI (L : Int))] [] σa2 _
    have hB2a := cM_fr hB1a fr2
    have hR2a := PTk_cR hB.inj fr2 hR1a
    have hT2a := cTk_ad hT1a fr2
    have hq2a := cQt_fr hq1a fr2
    have hs2a : cTs σa2 B t L (tFail 1 (qY t L).2) := p2
    have eb2 := hs2a.2.2.2.2.2.2.2.2
    refine zF_iload_n 67 dX7_evaluate_66 rfl rfl ?_
    refine zF_ifb_eq 77 70 dX7_evaluate_67 rfl rfl (fun c3 => ?_) (fun c3 => ?_)
    · refine zF_aload_n 78 dX7_evaluate_77 rfl rfl ?_
      refine zF_iload_n 79 dX7_evaluate_78 rfl rfl ?_
      refine zF_callVi 82 (d2 := (d + 21)) (as := [zI ((m1 : Nat) : Int)]) dX7_evaluate_79 rfl kX7_57 iX7_leastIn (ci := 7) rfl eX7_leastIn (Nat.le_refl _) hq2a.1 hq2a.2.1 rfl rfl (Nat.le_of_ble_eq_true rfl) (zt_X7_leastIn hq2a hB2a hR2a hV (m1024 q1.1 (by omega))) ?_
      exact zF_ireturn dX7_evaluate_82 rfl ((by
        have e9 : qE t L = (tFail 1 (qY t L).2) := if_neg (by omega)
        refine ⟨_, rfl, (fr1.tr fr2), ?_, fun z => qAns_first z (by assumption) q1.2⟩
        rw [e9]
        exact hs2a))
    · refine zF_iload_n 71 dX7_evaluate_70 rfl rfl ?_
      refine zF_callSi 74 (d2 := (d + 21)) (as := [zI ((m1 : Nat) : Int)]) dX7_evaluate_71 rfl kX7_52 sJ6_bitCount_0f7a4 (Nat.le_refl _) rfl rfl (Nat.le_of_ble_eq_true rfl) (zt_J6_bitCount10 (m1024 q1.1 (by omega))) ?_
      refine zF_goto 82 dX7_evaluate_74 rfl ?_
      exact zF_ireturn dX7_evaluate_82 rfl ((by
        have e9 : qE t L = (tFail 1 (qY t L).2) := if_neg (by omega)
        refine ⟨_, rfl, (fr1.tr fr2), ?_, fun z => qAns_many z (by assumption) q1.1 (by omega) q1.2⟩
        rw [e9]
        exact hs2a))
theorem zt_X7_evaluate (hG : zOS G) (hO : zOPr G) (hV : mV N) (hW : mW N) (hX : mX N) (hL2 : L ≤ 200) (hq : cQt σ B) (hB : cM σ B) (hR : cR N σ B) (hT : cTk σ B t L) : zE G mX7_evaluate (d + 22) [zR (B 40), zI (L : Int)] σ (fun ro σ1 => ∃ x, ro = .inl (some (zI x)) ∧ zFr (PTk B) σ σ1 ∧ cTs σ1 B t L (qE t L) ∧ ((qE t L).2 = 0 → x = qAns N t L)) := by
  refine zE_of rfl (by simp [zcat]) (Nat.le_of_ble_eq_true rfl) ?_
  show zF G mX7_evaluate (d + 22) 0 [(0, zR (B 40)), (1, zI (L : Int))] [] σ _
  have hn := hV.n
  refine zF_aload_n 1 dX7_evaluate_0 rfl rfl ?_
  refine zF_getR 4 dX7_evaluate_1 rfl gX7_9 hq.1 hq.2.1 hq.2.2.1 ?_
  refine zF_iload_n 5 dX7_evaluate_4 rfl rfl ?_
  refine zF_callV 8 (d2 := (d + 21)) (as := [zI (L : Int)]) dX7_evaluate_5 rfl kX7_27 iX9_begin (ci := 9) rfl eX9_begin (Nat.le_refl _) hT.1 hT.2.1 rfl rfl (Nat.le_of_ble_eq_true rfl) (zE.mono (zt_X9_begin hT) fun ro σa1 hh1 => ?_)
  obtain ⟨er1, fr1, p1⟩ := hh1
  subst er1
  refine ⟨fr1.1, ?_⟩
  show zF G mX7_evaluate (d + 22) 8 [(0, zR (B 40)), (1, zI (L : Int))] [] σa1 _
  have hB1a := cM_fr hB fr1
  have hR1a := PTk_cR hB.inj fr1 hR
  have hT1a := cTk_ad hT fr1
  have hq1a := cQt_fr hq fr1
  have hs1a : cTs σa1 B t L ((0, 0) : tS) := p1
  refine zF_aload_n 9 dX7_evaluate_8 rfl rfl ?_
  refine zF_getR 12 dX7_evaluate_9 rfl gX7_9 hq1a.1 hq1a.2.1 hq1a.2.2.1 ?_
  refine zF_ldcS 14 (i := 25) dX7_evaluate_12 rfl rfl ?_
  refine zF_callV 17 (d2 := (d + 21)) (as := [zR (zbg + 25)]) dX7_evaluate_14 rfl kX7_35 iX9_takeWord (ci := 9) rfl eX9_takeWord (Nat.le_refl _) hT1a.1 hT1a.2.1 rfl rfl (Nat.le_of_ble_eq_true rfl) (zE.mono (zt_X9_takeWord (σ := σa1) hT1a hs1a hG (by decide)) fun ro σa2 hh2 => ?_)
  obtain ⟨er2, fr2, p2⟩ := hh2
  subst er2
  refine ⟨fr2.1, ?_⟩
  show zF G mX7_evaluate (d + 22) 17 [(0, zR (B 40)), (1, zI (L : Int))] [zI (zb (tWd t L (zsbi 25) ((0, 0) : tS)))] σa2 _
  have hB2a := cM_fr hB1a fr2
  have hR2a := PTk_cR hB.inj fr2 hR1a
  have hT2a := cTk_ad hT1a fr2
  have hq2a := cQt_fr hq1a fr2
  have hs2a : cTs σa2 B t L (if tWd t L (zsbi 25) ((0, 0) : tS) then tAdv t L ((0, 0) : tS) else ((0, 0) : tS)) := p2
  have eb2 := hs2a.2.2.2.2.2.2.2.2
  refine zF_istore_n 18 (ls' := [(2, zI (zb (tWd t L (zsbi 25) ((0, 0) : tS)))), (0, zR (B 40)), (1, zI (L : Int))]) dX7_evaluate_17 rfl (by decide) rfl ?_
  refine zF_iload_n 19 dX7_evaluate_18 rfl rfl ?_
  refine zF_ifb_ne 42 22 dX7_evaluate_19 rfl rfl (fun c1 => ?_) (fun c1 => ?_)
  · exact (by
      have ew : (if tWd t L (zsbi 25) ((0, 0) : tS) then tAdv t L ((0, 0) : tS) else ((0, 0) : tS)) = tAdv t L ((0, 0) : tS) := if_pos (by assumption)
      have ea : qA0 t L = (tAdv t L ((0, 0) : tS)) := if_pos (by first | exact Or.inl (by assumption) | exact Or.inr (by assumption))
      have hs9 : cTs σa2 B t L (tAdv t L ((0, 0) : tS)) := (ew ▸ hs2a)
      exact (zq_rest7 hG hO hV hW hX hL2 hq2a hB2a hR2a hT2a (ea ▸ hs9)).mono fun r σ1 q => (by
        obtain ⟨x, a1, a2, a3⟩ := q
        exact ⟨x, a1, (fr1.tr fr2).tr a2, a3⟩))
  · have hfx1 : cTs σa2 B t L ((0, 0) : tS) := (show (if _ then tAdv t L ((0, 0) : tS) else (0, 0)) = ((0, 0) : tS) from if_neg (by assumption)) ▸ hs2a
    refine zF_aload_n 23 dX7_evaluate_22 rfl rfl ?_
    refine zF_getR 26 dX7_evaluate_23 rfl gX7_9 hq2a.1 hq2a.2.1 hq2a.2.2.1 ?_
    refine zF_ldcS 28 (i := 26) dX7_evaluate_26 rfl rfl ?_
    refine zF_callV 31 (d2 := (d + 21)) (as := [zR (zbg + 26)]) dX7_evaluate_28 rfl kX7_35 iX9_takeWord (ci := 9) rfl eX9_takeWord (Nat.le_refl _) hT2a.1 hT2a.2.1 rfl rfl (Nat.le_of_ble_eq_true rfl) (zE.mono (zt_X9_takeWord (σ := σa2) hT2a hfx1 hG (by decide)) fun ro σa3 hh3 => ?_)
    obtain ⟨er3, fr3, p3⟩ := hh3
    subst er3
    refine ⟨fr3.1, ?_⟩
    show zF G mX7_evaluate (d + 22) 31 [(2, zI (zb (tWd t L (zsbi 25) ((0, 0) : tS)))), (0, zR (B 40)), (1, zI (L : Int))] [zI (zb (tWd t L (zsbi 26) ((0, 0) : tS)))] σa3 _
    have hB3a := cM_fr hB2a fr3
    have hR3a := PTk_cR hB.inj fr3 hR2a
    have hT3a := cTk_ad hT2a fr3
    have hq3a := cQt_fr hq2a fr3
    have hs3a : cTs σa3 B t L (if tWd t L (zsbi 26) ((0, 0) : tS) then tAdv t L ((0, 0) : tS) else ((0, 0) : tS)) := p3
    have eb3 := hs3a.2.2.2.2.2.2.2.2
    refine zF_ifb_ne 42 34 dX7_evaluate_31 rfl rfl (fun c2 => ?_) (fun c2 => ?_)
    · exact (by
        have ew : (if tWd t L (zsbi 26) ((0, 0) : tS) then tAdv t L ((0, 0) : tS) else ((0, 0) : tS)) = tAdv t L ((0, 0) : tS) := if_pos (by assumption)
        have ea : qA0 t L = (tAdv t L ((0, 0) : tS)) := if_pos (by first | exact Or.inl (by assumption) | exact Or.inr (by assumption))
        have hs9 : cTs σa3 B t L (tAdv t L ((0, 0) : tS)) := (ew ▸ hs3a)
        exact (zq_rest7 hG hO hV hW hX hL2 hq3a hB3a hR3a hT3a (ea ▸ hs9)).mono fun r σ1 q => (by
          obtain ⟨x, a1, a2, a3⟩ := q
          exact ⟨x, a1, ((fr1.tr fr2).tr fr3).tr a2, a3⟩))
    · have hfx2 : cTs σa3 B t L ((0, 0) : tS) := (show (if _ then tAdv t L ((0, 0) : tS) else (0, 0)) = ((0, 0) : tS) from if_neg (by assumption)) ▸ hs3a
      refine zF_aload_n 35 dX7_evaluate_34 rfl rfl ?_
      refine zF_getR 38 dX7_evaluate_35 rfl gX7_9 hq3a.1 hq3a.2.1 hq3a.2.2.1 ?_
      refine zF_iconst 39 dX7_evaluate_38 rfl ?_
      refine zF_callV 42 (d2 := (d + 21)) (as := [zI 1]) dX7_evaluate_39 rfl kX7_41 iX9_fail (ci := 9) rfl eX9_fail (Nat.le_refl _) hT3a.1 hT3a.2.1 rfl rfl (Nat.le_of_ble_eq_true rfl) (zE.mono (zt_X9_fail (σ := σa3) (c := 1) hT3a hfx2 (by decide) (by decide)) fun ro σa4 hh4 => ?_)
      obtain ⟨er4, fr4, p4⟩ := hh4
      subst er4
      refine ⟨fr4.1, ?_⟩
      show zF G mX7_evaluate (d + 22) 42 [(2, zI (zb (tWd t L (zsbi 25) ((0, 0) : tS)))), (0, zR (B 40)), (1, zI (L : Int))] [] σa4 _
      have hB4a := cM_fr hB3a fr4
      have hR4a := PTk_cR hB.inj fr4 hR3a
      have hT4a := cTk_ad hT3a fr4
      have hq4a := cQt_fr hq3a fr4
      have hs4a : cTs σa4 B t L (tFail 1 ((0, 0) : tS)) := p4
      have eb4 := hs4a.2.2.2.2.2.2.2.2
      exact (by
        have ea : qA0 t L = (tFail 1 ((0, 0) : tS)) := if_neg (fun z => by rcases z with z | z <;> contradiction)
        have hs9 : cTs σa4 B t L (tFail 1 ((0, 0) : tS)) := hs4a
        exact (zq_rest7 hG hO hV hW hX hL2 hq4a hB4a hR4a hT4a (ea ▸ hs9)).mono fun r σ1 q => (by
          obtain ⟨x, a1, a2, a3⟩ := q
          exact ⟨x, a1, (((fr1.tr fr2).tr fr3).tr fr4).tr a2, a3⟩))
theorem zt_X11_query (hGd : zGd G) (hG : zOS G) (hO : zOPr G) (hV : mV N) (hW : mW N) (hX : mX N) (hOo : cO σ B) (hqt : cQt σ B) (hR : cR N σ B) (hT : cTk σ B t L) {b : Int} (hb1 : zia σ (B 0) ((1 : Nat) : Int) = b) (b1 : b ≤ 700) (hL : (L : Int) ≤ b) (hL2 : L ≤ 200) : zE G mX11_query (d + 23) [zR (B 0), zI (L : Int)] σ (fun ro σ1 => ro = .inl (some (zI (qAns N t L))) ∧ zFr (PQc B) σ σ1 ∧ zia σ1 (B 0) ((1 : Nat) : Int) = 0 ∧ zia σ1 (B 0) ((2 : Nat) : Int) = (if (qE t L).2 = 0 then -1 else ((tbg t L (qE t L).1 : Nat) : Int))) := by
  refine zE_of rfl (by simp [zcat]) (Nat.le_of_ble_eq_true rfl) ?_
  show zF G mX11_query (d + 23) 0 [(0, zR (B 0)), (1, zI (L : Int))] [] σ _
  have hB := hOo.1
  have hi := hOo.1.2.2.2
  refine zF_aload_n 1 dX11_query_0 rfl rfl ?_
  refine zF_iload_n 2 dX11_query_1 rfl rfl ?_
  refine zF_sipush 5 dX11_query_2 rfl (by decide) ?_
  refine zF_callV 8 (d2 := (d + 22)) (as := [zI (L : Int), zI 200]) dX11_query_5 rfl kX11_107 iX11_checkLength (ci := 11) rfl eX11_checkLength (Nat.le_refl _) hOo.2.1 hOo.2.2.1 rfl rfl (Nat.le_of_ble_eq_true rfl) (zE.mono (zt_X11_checkLength hGd hOo hb1 (by omega) (by omega) (by constructor <;> omega) (by decide)) fun ro σx1 hh1 => ?_)
  rcases Decidable.em (0 ≤ (L : Int) ∧ (L : Int) ≤ 200 ∧ (L : Int) ≤ b) with kc1 | kc1
  rotate_left
  · rw [if_neg kc1] at hh1; obtain ⟨er1, es1⟩ := hh1; subst er1; subst es1; exact ⟨rfl, by decide, (absurd (⟨by omega, by omega, by omega⟩ : _ ∧ _ ∧ _) kc1)⟩
  rw [if_pos kc1] at hh1; obtain ⟨er1, es1⟩ := hh1; subst er1; replace es1 := es1.symm; subst es1; refine ⟨rfl, ?_⟩
  show zF G mX11_query (d + 23) 8 [(0, zR (B 0)), (1, zI (L : Int))] [] σ _
  refine zF_aload_n 9 dX11_query_8 rfl rfl ?_
  refine zF_getR 12 dX11_query_9 rfl gX11_93 hOo.2.1 hOo.2.2.1 hOo.2.2.2.2.2.2.2.2.2.2.2.2.2 ?_
  refine zF_iload_n 13 dX11_query_12 rfl rfl ?_
  refine zF_callV 16 (d2 := (d + 22)) (as := [zI (L : Int)]) dX11_query_13 rfl kX11_142 iX7_evaluate (ci := 7) rfl eX7_evaluate (Nat.le_refl _) hqt.1 hqt.2.1 rfl rfl (Nat.le_of_ble_eq_true rfl) (zE.mono (zt_X7_evaluate hG hO hV hW hX hL2 hqt hOo.1 hR hT) fun ro σg2 hh2 => ?_)
  obtain ⟨x2, er2, fr2, p2, q2⟩ := hh2
  subst er2
  refine ⟨fr2.1, ?_⟩
  show zF G mX11_query (d + 23) 16 [(0, zR (B 0)), (1, zI (L : Int))] [zI x2] σg2 _
  have hO2a := cO_fr hOo fr2
  have hT2a := cTk_ad hT fr2
  have hs2a : cTs σg2 B t L (qE t L) := p2
  have eb2 := hs2a.2.2.2.2.2.2.2.2
  refine zF_istore_n 17 (ls' := [(2, zI x2), (0, zR (B 0)), (1, zI (L : Int))]) dX11_query_16 rfl (by decide) rfl ?_
  refine zF_aload_n 18 dX11_query_17 rfl rfl ?_
  refine zF_callV 21 (d2 := (d + 22)) (as := []) dX11_query_18 rfl kX11_114 iX11_finishReading (ci := 11) rfl eX11_finishReading (Nat.le_refl _) hO2a.2.1 hO2a.2.2.1 rfl rfl (Nat.le_of_ble_eq_true rfl) (zE.mono (zt_X11_finishReading hO2a hT2a hs2a) fun ro σa3 hh3 => ?_)
  obtain ⟨er3, fr3, p3⟩ := hh3
  subst er3
  refine ⟨fr3.1, ?_⟩
  show zF G mX11_query (d + 23) 21 [(2, zI x2), (0, zR (B 0)), (1, zI (L : Int))] [] σa3 _
  have hO3a := cO_fr hO2a fr3
  have hT3a := cTk_fr hT2a fr3 fun j q => Bne hi (by decide) q.1
  have hs3a : cTs σa3 B t L (qE t L) := cTs_fr hs2a fr3 fun j q => Bne hi (by decide) q.1
  refine zF_aload_n 22 dX11_query_21 rfl rfl ?_
  refine zF_getR 25 dX11_query_22 rfl gX11_75 hO3a.2.1 hO3a.2.2.1 hO3a.2.2.2.2.2.2.2.2.2.2.2.1 ?_
  refine zF_callVi 28 (d2 := (d + 22)) (as := []) dX11_query_25 rfl kX11_117 iX9_failed (ci := 9) rfl eX9_failed (Nat.le_refl _) hT3a.1 hT3a.2.1 rfl rfl (Nat.le_of_ble_eq_true rfl) (zt_X9_failed (σ := σa3) hT3a hs3a) ?_
  refine zF_ifb_eq 44 31 dX11_query_28 rfl rfl (fun c1 => ?_) (fun c1 => ?_)
  · refine zF_iload_n 45 dX11_query_44 rfl rfl ?_
    exact zF_ireturn dX11_query_45 rfl (⟨congrArg (fun z => Sum.inl (some (zI z))) (q2 (by omega)), ((fr2.wk fun _ _ q => Or.inl q).tr (fr3.wk fun _ _ q => Or.inr q) : zFr (PQc B) σ σa3), p3.1, p3.2⟩)
  · refine zF_ldc 33 dX11_query_31 rfl oX11_146 ?_
    refine zF_aload_n 34 dX11_query_33 rfl rfl ?_
    refine zF_getR 37 dX11_query_34 rfl gX11_75 hO3a.2.1 hO3a.2.2.1 hO3a.2.2.2.2.2.2.2.2.2.2.2.1 ?_
    refine zF_getI 40 dX11_query_37 rfl gX11_121 (by decide) (by decide) hT3a.1 hT3a.2.1 hs3a.2.2.2.2.2.2.1 ?_
    refine zF_isub 41 dX11_query_40 rfl ?_
    refine zF_goto 45 dX11_query_41 rfl ?_
    exact zF_ireturn dX11_query_45 rfl (⟨congrArg (fun z => Sum.inl (some (zI z))) (by unfold qAns; rw [if_pos (by assumption)]), ((fr2.wk fun _ _ q => Or.inl q).tr (fr3.wk fun _ _ q => Or.inr q) : zFr (PQc B) σ σa3), p3.1, p3.2⟩)
end ZCX

/-! the class: sets of places; counting bits; rows filled -/
section ZC10
variable {G : zG} {M : zMeth} {d pc : Nat} {ls : List (Nat × zV)} {st : List zV} {σ : zMem} {Q : zRes → zMem → Prop} {B : Nat → Nat} {N : Int → Int}
def zush (a b : Int) : Int := ((Int32.ofInt a).toUInt32 >>> ((Int32.ofInt b).toUInt32 &&& Int32.toUInt32 31)).toInt32.toInt
theorem zF_iushr (pc' : Nat) {a b : Int} (hd : decode M.2.1 pc = .ok (.iushr, 1)) (hp : pc + 1 = pc') (k : zF G M d pc' ls (zI (zush a b) :: st) σ Q) : zF G M d pc ls (zI b :: zI a :: st) σ Q := by
  subst hp
  refine zF_step rfl rfl rfl ?_ k
  intro ρ p e R s m args below meth c hC H locs cells slots lsA Qm hS hR1 hR2 kk
  have q := kk H locs lsA hS
  simp only [List.map_cons, ztr, zush, Int32.ofInt_toInt] at q ⊢
  exact lv_iushr hC.1 hC.2.1 hd rfl q
/-- the objects of the programs -/
def cPr (σ : zMem) (B : Nat → Nat) : Prop := zkd σ (B 400) = (0, 5) ∧ B 400 < zn σ ∧ zra σ (B 400) ((0 : Nat) : Int) = some (B 100) ∧ zra σ (B 400) ((1 : Nat) : Int) = some (B 200) ∧ zra σ (B 400) ((2 : Nat) : Int) = some (B 300) ∧ ∀ k n, (k, n) ∈ [(5, 4), (6, 4), (7, 6), (8, 16), (9, 16), (10, 16), (11, 4), (12, 5), (13, 5)] → zra σ (B 400) ((k : Nat) : Int) = some (B (400 + k)) ∧ B (400 + k) < zn σ ∧ zkd σ (B (400 + k)) = (1, n)
theorem cPr_fr {P : Nat → Int → Prop} {σ2 : zMem} (h : cPr σ B) (f : zFr P σ σ2) : cPr σ2 B := by
  obtain ⟨f1, f2, f3, -⟩ := f
  unfold cPr at h ⊢
  rw [f1, f2, f3]
  exact h
theorem or_pow : ∀ a : Fin 16, ∀ k : Fin 4, (a : Nat) ||| 2 ^ (k : Nat) < 16 := by decide +kernel
theorem bit_orp : ∀ a : Fin 16, ∀ k : Fin 4, (Int32.ofInt ((a : Nat) : Int) ||| Int32.ofInt ((2 ^ (k : Nat) : Nat) : Int)).toInt = (((a : Nat) ||| 2 ^ (k : Nat) : Nat) : Int) := by decide +kernel
theorem mpow_bit : ∀ a : Fin 16, ∀ k j : Fin 4, ((a : Nat) ||| 2 ^ (k : Nat)).testBit j = ((a : Nat).testBit j || decide ((j : Nat) = k)) := by decide +kernel
theorem tm_s {t : Int → Int} {f : Int} {x : Nat} (hx : x < 4) : tm t f (x + 1) = if t x = f then tm t f x ||| 2 ^ x else tm t f x := by
  have a : tm t f x < 16 := msk_lt _ _
  have y : ∀ n k : Nat, k < 4 → (tm t f n).testBit k = (decide (k < n) && decide (t k = f)) := fun n k hk => msk_bit _ _ _ hk
  by_cases c : t x = f
  · rw [if_pos c]
    refine mext' (msk_lt _ _) (or_pow ⟨_, a⟩ ⟨x, hx⟩) fun k hk => ?_
    rw [mpow_bit ⟨_, a⟩ ⟨x, hx⟩ ⟨k, hk⟩]
    show (tm t f (x + 1)).testBit k = ((tm t f x).testBit k || decide (k = x))
    rw [y _ k hk, y _ k hk]
    by_cases e : k = x
    · subst e
      rw [decide_eq_true (show k < k + 1 by omega), decide_eq_true c, decide_eq_true (rfl : k = k), Bool.or_true]
      rfl
    · rw [decide_eq_false e, Bool.or_false]
      by_cases l : k < x
      · rw [decide_eq_true l, decide_eq_true (show k < x + 1 by omega)]
      · rw [decide_eq_false l, decide_eq_false (show ¬ k < x + 1 by omega)]
  · rw [if_neg c]
    refine mext' (msk_lt _ _) a fun k hk => ?_
    rw [y _ k hk, y _ k hk]
    by_cases e : k = x
    · subst e
      rw [decide_eq_false c, Bool.and_false, Bool.and_false]
    · by_cases l : k < x
      · rw [decide_eq_true l, decide_eq_true (show k < x + 1 by omega)]
      · rw [decide_eq_false l, decide_eq_false (show ¬ k < x + 1 by omega)]
theorem tm_0 (t : Int → Int) (f : Int) : tm t f 0 = 0 := rfl
theorem tm_congr {t u : Int → Int} {f : Int} {n : Nat} (h : ∀ k : Nat, k < n → t k = u k) : tm t f n = tm u f n := by
  refine mext' (msk_lt _ _) (msk_lt _ _) fun k hk => ?_
  have y : ∀ (v : Int → Int), (tm v f n).testBit k = (decide (k < n) && decide (v k = f)) := fun v => msk_bit _ _ _ hk
  rw [y, y]
  by_cases l : k < n
  · rw [h k l]
  · rw [decide_eq_false l]; rfl
/-- all places -/
def fullM (n : Nat) : Nat := msk (fun _ => true) n
theorem tm_full (t : Int → Int) (f : Int) (n : Nat) : msub (tm t f n) (fullM n) := msub_o (msk_lt _ _) (msk_lt _ _) fun k hk h => by
  have y : (tm t f n).testBit k = (decide (k < n) && decide (t k = f)) := msk_bit _ _ _ hk
  have z : (fullM n).testBit k = (decide (k < n) && true) := msk_bit _ _ _ hk
  rw [y, Bool.and_eq_true] at h
  rw [z, h.1]; rfl
theorem opn_tm (ch : Int → Int) (n : Nat) : opn ch n = tm ch (-2) n := rfl
theorem mor_o {a b c : Nat} (ha : a < 16) (hb : b < 16) (hc : c < 16) (h1 : msub a c) (h2 : msub b c) : msub (a ||| b) c := msub_o (or_lt ⟨a, ha⟩ ⟨b, hb⟩) hc fun k hk e => by
  rw [mor_b ha hb hk] at e
  cases x : a.testBit k with
  | true => exact msub_b ha hc hk h1 x
  | false =>
    rw [x, Bool.false_or] at e
    exact msub_b hb hc hk h2 e
theorem popM_v : ∀ m : Fin 16, popM m = ((((Int32.ofInt ((m : Nat) : Int)).toInt.toNat.testBit 0).toNat + ((Int32.ofInt ((m : Nat) : Int)).toInt.toNat.testBit 1).toNat + ((Int32.ofInt ((m : Nat) : Int)).toInt.toNat.testBit 2).toNat + ((Int32.ofInt ((m : Nat) : Int)).toInt.toNat.testBit 3).toNat : Nat) : Int) := by decide +kernel
theorem popM_b (m : Nat) : 0 ≤ popM m ∧ popM m ≤ 4 := by
  have a := zsum_ge (f := fun k => if m.testBit k.toNat = true then (1 : Int) else 0) (n := 4) (a := 0) fun i _ => by split <;> omega
  have b := zsum_le (f := fun k => if m.testBit k.toNat = true then (1 : Int) else 0) (n := 4) (a := 1) fun i _ => by split <;> omega
  unfold popM
  omega
theorem oJ6_265 : Cond.constant RJ6 265 (Int32.ofInt (1431655765)) ∈ lw_all := by
  have h := zi6 (w := Cond.constant "java/lang/Integer" 265 (1431655765 : Int32)) 24 rfl rfl
  exact h
theorem oJ6_266 : Cond.constant RJ6 266 (Int32.ofInt (858993459)) ∈ lw_all := by
  have h := zi6 (w := Cond.constant "java/lang/Integer" 266 (858993459 : Int32)) 25 rfl rfl
  exact h
theorem oJ6_267 : Cond.constant RJ6 267 (Int32.ofInt (252645135)) ∈ lw_all := by
  have h := zi6 (w := Cond.constant "java/lang/Integer" 267 (252645135 : Int32)) 26 rfl rfl
  exact h
theorem bc_all : ∀ m : Fin 16, ((Int32.ofInt ((((Int32.ofInt ((((Int32.ofInt (((m : Nat) : Int) - ((Int32.ofInt (zush ((m : Nat) : Int) 1) &&& Int32.ofInt (1431655765)).toInt)) &&& Int32.ofInt (858993459)).toInt) + ((Int32.ofInt (zush (((m : Nat) : Int) - ((Int32.ofInt (zush ((m : Nat) : Int) 1) &&& Int32.ofInt (1431655765)).toInt)) 2) &&& Int32.ofInt (858993459)).toInt)) + (zush (((Int32.ofInt (((m : Nat) : Int) - ((Int32.ofInt (zush ((m : Nat) : Int) 1) &&& Int32.ofInt (1431655765)).toInt)) &&& Int32.ofInt (858993459)).toInt) + ((Int32.ofInt (zush (((m : Nat) : Int) - ((Int32.ofInt (zush ((m : Nat) : Int) 1) &&& Int32.ofInt (1431655765)).toInt)) 2) &&& Int32.ofInt (858993459)).toInt)) 4)) &&& Int32.ofInt (252645135)).toInt) + (zush ((Int32.ofInt ((((Int32.ofInt (((m : Nat) : Int) - ((Int32.ofInt (zush ((m : Nat) : Int) 1) &&& Int32.ofInt (1431655765)).toInt)) &&& Int32.ofInt (858993459)).toInt) + ((Int32.ofInt (zush (((m : Nat) : Int) - ((Int32.ofInt (zush ((m : Nat) : Int) 1) &&& Int32.ofInt (1431655765)).toInt)) 2) &&& Int32.ofInt (858993459)).toInt)) + (zush (((Int32.ofInt (((m : Nat) : Int) - ((Int32.ofInt (zush ((m : Nat) : Int) 1) &&& Int32.ofInt (1431655765)).toInt)) &&& Int32.ofInt (858993459)).toInt) + ((Int32.ofInt (zush (((m : Nat) : Int) - ((Int32.ofInt (zush ((m : Nat) : Int) 1) &&& Int32.ofInt (1431655765)).toInt)) 2) &&& Int32.ofInt (858993459)).toInt)) 4)) &&& Int32.ofInt (252645135)).toInt) 8)) + (zush (((Int32.ofInt ((((Int32.ofInt (((m : Nat) : Int) - ((Int32.ofInt (zush ((m : Nat) : Int) 1) &&& Int32.ofInt (1431655765)).toInt)) &&& Int32.ofInt (858993459)).toInt) + ((Int32.ofInt (zush (((m : Nat) : Int) - ((Int32.ofInt (zush ((m : Nat) : Int) 1) &&& Int32.ofInt (1431655765)).toInt)) 2) &&& Int32.ofInt (858993459)).toInt)) + (zush (((Int32.ofInt (((m : Nat) : Int) - ((Int32.ofInt (zush ((m : Nat) : Int) 1) &&& Int32.ofInt (1431655765)).toInt)) &&& Int32.ofInt (858993459)).toInt) + ((Int32.ofInt (zush (((m : Nat) : Int) - ((Int32.ofInt (zush ((m : Nat) : Int) 1) &&& Int32.ofInt (1431655765)).toInt)) 2) &&& Int32.ofInt (858993459)).toInt)) 4)) &&& Int32.ofInt (252645135)).toInt) + (zush ((Int32.ofInt ((((Int32.ofInt (((m : Nat) : Int) - ((Int32.ofInt (zush ((m : Nat) : Int) 1) &&& Int32.ofInt (1431655765)).toInt)) &&& Int32.ofInt (858993459)).toInt) + ((Int32.ofInt (zush (((m : Nat) : Int) - ((Int32.ofInt (zush ((m : Nat) : Int) 1) &&& Int32.ofInt (1431655765)).toInt)) 2) &&& Int32.ofInt (858993459)).toInt)) + (zush (((Int32.ofInt (((m : Nat) : Int) - ((Int32.ofInt (zush ((m : Nat) : Int) 1) &&& Int32.ofInt (1431655765)).toInt)) &&& Int32.ofInt (858993459)).toInt) + ((Int32.ofInt (zush (((m : Nat) : Int) - ((Int32.ofInt (zush ((m : Nat) : Int) 1) &&& Int32.ofInt (1431655765)).toInt)) 2) &&& Int32.ofInt (858993459)).toInt)) 4)) &&& Int32.ofInt (252645135)).toInt) 8)) 16)) &&& Int32.ofInt 63).toInt) = popM m := by decide +kernel
theorem zt_J6_bitCount {m : Nat} (hm : m < 16) : zP1 G mJ6_bitCount_0f7a4 d [zI ((m : Nat) : Int)] σ (popM m) := by
  have hbc := bc_all ⟨m, hm⟩
  refine zE_of rfl (by simp [zcat]) (Nat.le_of_ble_eq_true rfl) ?_
  show zF G mJ6_bitCount_0f7a4 d 0 [(0, zI ((m : Nat) : Int))] [] σ _
  refine zF_iload_n 1 dJ6_bitCount_0f7a4_0 rfl rfl ?_
  refine zF_iload_n 2 dJ6_bitCount_0f7a4_1 rfl rfl ?_
  refine zF_iconst 3 dJ6_bitCount_0f7a4_2 rfl ?_
  refine zF_iushr 4 dJ6_bitCount_0f7a4_3 rfl ?_
  refine zF_ldcw 7 dJ6_bitCount_0f7a4_4 rfl oJ6_265 ?_
  refine zF_iand 8 dJ6_bitCount_0f7a4_7 rfl ?_
  refine zF_isub 9 dJ6_bitCount_0f7a4_8 rfl ?_
  refine zF_istore_n 10 (ls' := [(0, zI (((m : Nat) : Int) - ((Int32.ofInt (zush ((m : Nat) : Int) 1) &&& Int32.ofInt (1431655765)).toInt)))]) dJ6_bitCount_0f7a4_9 rfl (by decide) rfl ?_
  refine zF_iload_n 11 dJ6_bitCount_0f7a4_10 rfl rfl ?_
  refine zF_ldcw 14 dJ6_bitCount_0f7a4_11 rfl oJ6_266 ?_
  refine zF_iand 15 dJ6_bitCount_0f7a4_14 rfl ?_
  refine zF_iload_n 16 dJ6_bitCount_0f7a4_15 rfl rfl ?_
  refine zF_iconst 17 dJ6_bitCount_0f7a4_16 rfl ?_
  refine zF_iushr 18 dJ6_bitCount_0f7a4_17 rfl ?_
  refine zF_ldcw 21 dJ6_bitCount_0f7a4_18 rfl oJ6_266 ?_
  refine zF_iand 22 dJ6_bitCount_0f7a4_21 rfl ?_
  refine zF_iadd 23 dJ6_bitCount_0f7a4_22 rfl ?_
  refine zF_istore_n 24 (ls' := [(0, zI (((Int32.ofInt (((m : Nat) : Int) - ((Int32.ofInt (zush ((m : Nat) : Int) 1) &&& Int32.ofInt (1431655765)).toInt)) &&& Int32.ofInt (858993459)).toInt) + ((Int32.ofInt (zush (((m : Nat) : Int) - ((Int32.ofInt (zush ((m : Nat) : Int) 1) &&& Int32.ofInt (1431655765)).toInt)) 2) &&& Int32.ofInt (858993459)).toInt)))]) dJ6_bitCount_0f7a4_23 rfl (by decide) rfl ?_
  refine zF_iload_n 25 dJ6_bitCount_0f7a4_24 rfl rfl ?_
  refine zF_iload_n 26 dJ6_bitCount_0f7a4_25 rfl rfl ?_
  refine zF_iconst 27 dJ6_bitCount_0f7a4_26 rfl ?_
  refine zF_iushr 28 dJ6_bitCount_0f7a4_27 rfl ?_
  refine zF_iadd 29 dJ6_bitCount_0f7a4_28 rfl ?_
  refine zF_ldcw 32 dJ6_bitCount_0f7a4_29 rfl oJ6_267 ?_
  refine zF_iand 33 dJ6_bitCount_0f7a4_32 rfl ?_
  refine zF_istore_n 34 (ls' := [(0, zI ((Int32.ofInt ((((Int32.ofInt (((m : Nat) : Int) - ((Int32.ofInt (zush ((m : Nat) : Int) 1) &&& Int32.ofInt (1431655765)).toInt)) &&& Int32.ofInt (858993459)).toInt) + ((Int32.ofInt (zush (((m : Nat) : Int) - ((Int32.ofInt (zush ((m : Nat) : Int) 1) &&& Int32.ofInt (1431655765)).toInt)) 2) &&& Int32.ofInt (858993459)).toInt)) + (zush (((Int32.ofInt (((m : Nat) : Int) - ((Int32.ofInt (zush ((m : Nat) : Int) 1) &&& Int32.ofInt (1431655765)).toInt)) &&& Int32.ofInt (858993459)).toInt) + ((Int32.ofInt (zush (((m : Nat) : Int) - ((Int32.ofInt (zush ((m : Nat) : Int) 1) &&& Int32.ofInt (1431655765)).toInt)) 2) &&& Int32.ofInt (858993459)).toInt)) 4)) &&& Int32.ofInt (252645135)).toInt))]) dJ6_bitCount_0f7a4_33 rfl (by decide) rfl ?_
  refine zF_iload_n 35 dJ6_bitCount_0f7a4_34 rfl rfl ?_
  refine zF_iload_n 36 dJ6_bitCount_0f7a4_35 rfl rfl ?_
  refine zF_bipush 38 dJ6_bitCount_0f7a4_36 rfl (by decide) ?_
  refine zF_iushr 39 dJ6_bitCount_0f7a4_38 rfl ?_
  refine zF_iadd 40 dJ6_bitCount_0f7a4_39 rfl ?_
  refine zF_istore_n 41 (ls' := [(0, zI (((Int32.ofInt ((((Int32.ofInt (((m : Nat) : Int) - ((Int32.ofInt (zush ((m : Nat) : Int) 1) &&& Int32.ofInt (1431655765)).toInt)) &&& Int32.ofInt (858993459)).toInt) + ((Int32.ofInt (zush (((m : Nat) : Int) - ((Int32.ofInt (zush ((m : Nat) : Int) 1) &&& Int32.ofInt (1431655765)).toInt)) 2) &&& Int32.ofInt (858993459)).toInt)) + (zush (((Int32.ofInt (((m : Nat) : Int) - ((Int32.ofInt (zush ((m : Nat) : Int) 1) &&& Int32.ofInt (1431655765)).toInt)) &&& Int32.ofInt (858993459)).toInt) + ((Int32.ofInt (zush (((m : Nat) : Int) - ((Int32.ofInt (zush ((m : Nat) : Int) 1) &&& Int32.ofInt (1431655765)).toInt)) 2) &&& Int32.ofInt (858993459)).toInt)) 4)) &&& Int32.ofInt (252645135)).toInt) + (zush ((Int32.ofInt ((((Int32.ofInt (((m : Nat) : Int) - ((Int32.ofInt (zush ((m : Nat) : Int) 1) &&& Int32.ofInt (1431655765)).toInt)) &&& Int32.ofInt (858993459)).toInt) + ((Int32.ofInt (zush (((m : Nat) : Int) - ((Int32.ofInt (zush ((m : Nat) : Int) 1) &&& Int32.ofInt (1431655765)).toInt)) 2) &&& Int32.ofInt (858993459)).toInt)) + (zush (((Int32.ofInt (((m : Nat) : Int) - ((Int32.ofInt (zush ((m : Nat) : Int) 1) &&& Int32.ofInt (1431655765)).toInt)) &&& Int32.ofInt (858993459)).toInt) + ((Int32.ofInt (zush (((m : Nat) : Int) - ((Int32.ofInt (zush ((m : Nat) : Int) 1) &&& Int32.ofInt (1431655765)).toInt)) 2) &&& Int32.ofInt (858993459)).toInt)) 4)) &&& Int32.ofInt (252645135)).toInt) 8)))]) dJ6_bitCount_0f7a4_40 rfl (by decide) rfl ?_
  refine zF_iload_n 42 dJ6_bitCount_0f7a4_41 rfl rfl ?_
  refine zF_iload_n 43 dJ6_bitCount_0f7a4_42 rfl rfl ?_
  refine zF_bipush 45 dJ6_bitCount_0f7a4_43 rfl (by decide) ?_
  refine zF_iushr 46 dJ6_bitCount_0f7a4_45 rfl ?_
  refine zF_iadd 47 dJ6_bitCount_0f7a4_46 rfl ?_
  refine zF_istore_n 48 (ls' := [(0, zI ((((Int32.ofInt ((((Int32.ofInt (((m : Nat) : Int) - ((Int32.ofInt (zush ((m : Nat) : Int) 1) &&& Int32.ofInt (1431655765)).toInt)) &&& Int32.ofInt (858993459)).toInt) + ((Int32.ofInt (zush (((m : Nat) : Int) - ((Int32.ofInt (zush ((m : Nat) : Int) 1) &&& Int32.ofInt (1431655765)).toInt)) 2) &&& Int32.ofInt (858993459)).toInt)) + (zush (((Int32.ofInt (((m : Nat) : Int) - ((Int32.ofInt (zush ((m : Nat) : Int) 1) &&& Int32.ofInt (1431655765)).toInt)) &&& Int32.ofInt (858993459)).toInt) + ((Int32.ofInt (zush (((m : Nat) : Int) - ((Int32.ofInt (zush ((m : Nat) : Int) 1) &&& Int32.ofInt (1431655765)).toInt)) 2) &&& Int32.ofInt (858993459)).toInt)) 4)) &&& Int32.ofInt (252645135)).toInt) + (zush ((Int32.ofInt ((((Int32.ofInt (((m : Nat) : Int) - ((Int32.ofInt (zush ((m : Nat) : Int) 1) &&& Int32.ofInt (1431655765)).toInt)) &&& Int32.ofInt (858993459)).toInt) + ((Int32.ofInt (zush (((m : Nat) : Int) - ((Int32.ofInt (zush ((m : Nat) : Int) 1) &&& Int32.ofInt (1431655765)).toInt)) 2) &&& Int32.ofInt (858993459)).toInt)) + (zush (((Int32.ofInt (((m : Nat) : Int) - ((Int32.ofInt (zush ((m : Nat) : Int) 1) &&& Int32.ofInt (1431655765)).toInt)) &&& Int32.ofInt (858993459)).toInt) + ((Int32.ofInt (zush (((m : Nat) : Int) - ((Int32.ofInt (zush ((m : Nat) : Int) 1) &&& Int32.ofInt (1431655765)).toInt)) 2) &&& Int32.ofInt (858993459)).toInt)) 4)) &&& Int32.ofInt (252645135)).toInt) 8)) + (zush (((Int32.ofInt ((((Int32.ofInt (((m : Nat) : Int) - ((Int32.ofInt (zush ((m : Nat) : Int) 1) &&& Int32.ofInt (1431655765)).toInt)) &&& Int32.ofInt (858993459)).toInt) + ((Int32.ofInt (zush (((m : Nat) : Int) - ((Int32.ofInt (zush ((m : Nat) : Int) 1) &&& Int32.ofInt (1431655765)).toInt)) 2) &&& Int32.ofInt (858993459)).toInt)) + (zush (((Int32.ofInt (((m : Nat) : Int) - ((Int32.ofInt (zush ((m : Nat) : Int) 1) &&& Int32.ofInt (1431655765)).toInt)) &&& Int32.ofInt (858993459)).toInt) + ((Int32.ofInt (zush (((m : Nat) : Int) - ((Int32.ofInt (zush ((m : Nat) : Int) 1) &&& Int32.ofInt (1431655765)).toInt)) 2) &&& Int32.ofInt (858993459)).toInt)) 4)) &&& Int32.ofInt (252645135)).toInt) + (zush ((Int32.ofInt ((((Int32.ofInt (((m : Nat) : Int) - ((Int32.ofInt (zush ((m : Nat) : Int) 1) &&& Int32.ofInt (1431655765)).toInt)) &&& Int32.ofInt (858993459)).toInt) + ((Int32.ofInt (zush (((m : Nat) : Int) - ((Int32.ofInt (zush ((m : Nat) : Int) 1) &&& Int32.ofInt (1431655765)).toInt)) 2) &&& Int32.ofInt (858993459)).toInt)) + (zush (((Int32.ofInt (((m : Nat) : Int) - ((Int32.ofInt (zush ((m : Nat) : Int) 1) &&& Int32.ofInt (1431655765)).toInt)) &&& Int32.ofInt (858993459)).toInt) + ((Int32.ofInt (zush (((m : Nat) : Int) - ((Int32.ofInt (zush ((m : Nat) : Int) 1) &&& Int32.ofInt (1431655765)).toInt)) 2) &&& Int32.ofInt (858993459)).toInt)) 4)) &&& Int32.ofInt (252645135)).toInt) 8)) 16)))]) dJ6_bitCount_0f7a4_47 rfl (by decide) rfl ?_
  refine zF_iload_n 49 dJ6_bitCount_0f7a4_48 rfl rfl ?_
  refine zF_bipush 51 dJ6_bitCount_0f7a4_49 rfl (by decide) ?_
  refine zF_iand 52 dJ6_bitCount_0f7a4_51 rfl ?_
  exact zF_iretP dJ6_bitCount_0f7a4_52 rfl (hbc)
theorem zt_J7_fill {a n : Nat} {v : Int} (ha : zkd σ a = (1, n)) (ha1 : a < zn σ) (hn : n < 1000) : zE G mJ7_fill_53178 d [zR a, zI v] σ (fun ro σ1 => ro = .inl none ∧ zFr (fun y _ => y = a) σ σ1 ∧ ∀ j : Int, 0 ≤ j → j < n → zia σ1 a j = v) := by
  refine zE_of rfl (by simp [zcat]) (Nat.le_of_ble_eq_true rfl) ?_
  show zF G mJ7_fill_53178 d 0 [(0, zR a), (1, zI v)] [] σ _
  refine zF_iconst 1 dJ7_fill_53178_0 rfl ?_
  refine zF_istore_n 2 (ls' := [(2, zI 0), (0, zR a), (1, zI v)]) dJ7_fill_53178_1 rfl (by decide) rfl ?_
  refine zF_aload_n 3 dJ7_fill_53178_2 rfl rfl ?_
  refine zF_alen 4 dJ7_fill_53178_3 rfl (by decide) ha ha1 ?_
  refine zF_istore_n 5 (ls' := [(3, zI ((n : Nat) : Int)), (2, zI 0), (0, zR a), (1, zI v)]) dJ7_fill_53178_4 rfl (by decide) rfl ?_
  refine zF_locs (ls' := [(2, zI ((0 : Nat) : Int)), (3, zI ((n : Nat) : Int)), (0, zR a), (1, zI v)]) ⟨zlI rfl (by first | rfl | omega | (push_cast; omega) | exact congrArg (_ + ·) (zbT (by assumption)) | exact congrArg (_ + ·) (zbF (by assumption)) | exact congrArg (_ + ·) (zbT (by omega)) | exact congrArg (_ + ·) (zbF (by omega)) | exact congrArg (_ + ·) (if_pos (by omega)).symm | exact congrArg (_ + ·) (if_neg (by omega)).symm | exact (if_pos (by omega)).symm | exact (if_neg (by omega)).symm | exact zsub_s (if_pos (by omega)).symm | exact zsub_s0 (if_neg (by omega)).symm | exact zadd0 (if_neg (by omega)).symm | exact zadd0 (zbF (by omega)) | exact (Int.sub_zero _).symm), rfl, rfl, rfl, trivial⟩ ?_
  refine zF_while (X := Nat) (fun x => n - x) (fun x σ2 => x ≤ n ∧ zFr (fun y _ => y = a) σ σ2 ∧ ∀ j : Int, 0 ≤ j → j < (x : Int) → zia σ2 a j = v) (fun x => [(2, zI ((x : Nat) : Int)), (3, zI ((n : Nat) : Int)), (0, zR a), (1, zI v)]) ?_ 0 σ (⟨by omega, zFr.rf, fun j h1 h2 => by omega⟩)
  intro x σ2 hI5 ih5
  show zF G mJ7_fill_53178 d 5 [(2, zI ((x : Nat) : Int)), (3, zI ((n : Nat) : Int)), (0, zR a), (1, zI v)] [] σ2 _
  obtain ⟨hx, fr2, p2⟩ := hI5
  refine zF_iload_n 6 dJ7_fill_53178_5 rfl rfl ?_
  refine zF_iload_n 7 dJ7_fill_53178_6 rfl rfl ?_
  refine zF_icmp_ge 20 10 dJ7_fill_53178_7 rfl rfl (by first | decide | (constructor <;> omega)) (by first | decide | (constructor <;> omega)) (fun c1 => ?_) (fun c1 => ?_)
  · exact zF_return dJ7_fill_53178_20 rfl (⟨rfl, fr2, fun j h1 h2 => p2 j h1 (by omega)⟩)
  · refine zF_aload_n 11 dJ7_fill_53178_10 rfl rfl ?_
    refine zF_iload_n 12 dJ7_fill_53178_11 rfl rfl ?_
    refine zF_iload_n 13 dJ7_fill_53178_12 rfl rfl ?_
    refine zF_iastore 14 dJ7_fill_53178_13 rfl (fr2.2.1 ▸ ha) (fr2.1 ▸ ha1) (by omega) (by omega) ?_
    refine zF_iinc 17 (ls' := [(2, zI (((x : Nat) : Int) + 1)), (3, zI ((n : Nat) : Int)), (0, zR a), (1, zI v)]) dJ7_fill_53178_14 rfl rfl rfl (by decide) rfl ?_
    refine zF_goto 5 dJ7_fill_53178_17 rfl ?_
    exact zF_locs (ls' := [(2, zI (((x + 1) : Nat) : Int)), (3, zI ((n : Nat) : Int)), (0, zR a), (1, zI v)]) ⟨zlI rfl (by first | rfl | omega | (push_cast; omega) | exact congrArg (_ + ·) (zbT (by assumption)) | exact congrArg (_ + ·) (zbF (by assumption)) | exact congrArg (_ + ·) (zbT (by omega)) | exact congrArg (_ + ·) (zbF (by omega)) | exact congrArg (_ + ·) (if_pos (by omega)).symm | exact congrArg (_ + ·) (if_neg (by omega)).symm | exact (if_pos (by omega)).symm | exact (if_neg (by omega)).symm | exact zsub_s (if_pos (by omega)).symm | exact zsub_s0 (if_neg (by omega)).symm | exact zadd0 (if_neg (by omega)).symm | exact zadd0 (zbF (by omega)) | exact (Int.sub_zero _).symm), rfl, rfl, rfl, trivial⟩ (ih5 (x + 1) _ (by omega) (⟨by omega, zFr_si rfl fr2, fun j h1 h2 => by
        rw [zia_si]
        by_cases e : j = (x : Int)
        · rw [if_pos ⟨rfl, e⟩]
        · rw [if_neg (fun q => e q.2), p2 j h1 (by omega)]⟩))
theorem cB_405 (h : cPr σ B) : zra σ (B 400) ((5 : Nat) : Int) = some (B 405) ∧ B 405 < zn σ ∧ zkd σ (B 405) = (1, 4) := h.2.2.2.2.2 5 4 (by decide)
theorem cB_406 (h : cPr σ B) : zra σ (B 400) ((6 : Nat) : Int) = some (B 406) ∧ B 406 < zn σ ∧ zkd σ (B 406) = (1, 4) := h.2.2.2.2.2 6 4 (by decide)
theorem cB_407 (h : cPr σ B) : zra σ (B 400) ((7 : Nat) : Int) = some (B 407) ∧ B 407 < zn σ ∧ zkd σ (B 407) = (1, 6) := h.2.2.2.2.2 7 6 (by decide)
theorem cB_408 (h : cPr σ B) : zra σ (B 400) ((8 : Nat) : Int) = some (B 408) ∧ B 408 < zn σ ∧ zkd σ (B 408) = (1, 16) := h.2.2.2.2.2 8 16 (by decide)
theorem cB_409 (h : cPr σ B) : zra σ (B 400) ((9 : Nat) : Int) = some (B 409) ∧ B 409 < zn σ ∧ zkd σ (B 409) = (1, 16) := h.2.2.2.2.2 9 16 (by decide)
theorem cB_410 (h : cPr σ B) : zra σ (B 400) ((10 : Nat) : Int) = some (B 410) ∧ B 410 < zn σ ∧ zkd σ (B 410) = (1, 16) := h.2.2.2.2.2 10 16 (by decide)
theorem zt_X5_placesWith {n : Nat} {f : Int} (hP : cPr σ B) (hcn : zia σ (B 400) ((4 : Nat) : Int) = (n : Int)) (h4 : n ≤ 4) (hch : ∀ k : Nat, k < n → zrg (zia σ (B 406) k)) (zrf : zrg f) : zP1 G mX5_placesWith d [zR (B 400), zI f] σ ((tm (zia σ (B 406)) f n : Nat) : Int) := by
  refine zE_of rfl (by simp [zcat]) (Nat.le_of_ble_eq_true rfl) ?_
  show zF G mX5_placesWith d 0 [(0, zR (B 400)), (1, zI f)] [] σ _
  refine zF_iconst 1 dX5_placesWith_0 rfl ?_
  refine zF_istore_n 2 (ls' := [(2, zI 0), (0, zR (B 400)), (1, zI f)]) dX5_placesWith_1 rfl (by decide) rfl ?_
  refine zF_iconst 3 dX5_placesWith_2 rfl ?_
  refine zF_istore_n 4 (ls' := [(3, zI 0), (2, zI 0), (0, zR (B 400)), (1, zI f)]) dX5_placesWith_3 rfl (by decide) rfl ?_
  refine zF_locs (ls' := (fun (i : Nat) => [(3, zI ((i : Nat) : Int)), (2, zI ((tm (zia σ (B 406)) f i : Nat) : Int)), (0, zR (B 400)), (1, zI f)]) 0) ⟨zlI rfl (by first | rfl | omega | (push_cast; omega) | exact congrArg (fun z : Nat => (z : Int)) (ts.trans (if_pos (by omega))).symm | exact congrArg (fun z : Nat => (z : Int)) (ts.trans (if_neg (by omega))).symm), zlI rfl (by first | rfl | omega | (push_cast; omega) | exact congrArg (fun z : Nat => (z : Int)) (ts.trans (if_pos (by omega))).symm | exact congrArg (fun z : Nat => (z : Int)) (ts.trans (if_neg (by omega))).symm), rfl, rfl, trivial⟩ ?_
  refine zF_loop (n := n) (fun (i : Nat) => [(3, zI ((i : Nat) : Int)), (2, zI ((tm (zia σ (B 406)) f i : Nat) : Int)), (0, zR (B 400)), (1, zI f)]) (fun _ => σ) (fun i hi ih4 => ?_) ?_
  · show zF G mX5_placesWith d 4 [(3, zI ((i : Nat) : Int)), (2, zI ((tm (zia σ (B 406)) f i : Nat) : Int)), (0, zR (B 400)), (1, zI f)] [] σ _
    have ts := tm_s (t := zia σ (B 406)) (f := f) (x := i) (by omega)
    have tl : tm (zia σ (B 406)) f i < 16 := msk_lt _ _
    refine zF_iload_n 5 dX5_placesWith_4 rfl rfl ?_
    refine zF_aload_n 6 dX5_placesWith_5 rfl rfl ?_
    refine zF_getI 9 dX5_placesWith_6 rfl gX5_63 (by decide) (by decide) hP.1 hP.2.1 hcn ?_
    refine zF_icmp_ge 34 12 dX5_placesWith_9 rfl rfl (by first | decide | assumption | exact hch _ (by omega) | (constructor <;> omega)) (by first | decide | assumption | exact hch _ (by omega) | (constructor <;> omega)) (fun c1 => ?_) (fun c1 => ?_)
    · exact absurd c1 (by omega)
    · refine zF_aload_n 13 dX5_placesWith_12 rfl rfl ?_
      refine zF_getR 16 dX5_placesWith_13 rfl gX5_15 hP.1 hP.2.1 (cB_406 hP).1 ?_
      refine zF_iload_n 17 dX5_placesWith_16 rfl rfl ?_
      refine zF_iaload 18 dX5_placesWith_17 rfl (cB_406 hP).2.2 (cB_406 hP).2.1 (by omega) (by omega) rfl ?_
      refine zF_iload_n 19 dX5_placesWith_18 rfl rfl ?_
      refine zF_icmp_ne 28 22 dX5_placesWith_19 rfl rfl (by first | decide | assumption | exact hch _ (by omega) | (constructor <;> omega)) (by first | decide | assumption | exact hch _ (by omega) | (constructor <;> omega)) (fun c2 => ?_) (fun c2 => ?_)
      · refine zF_iinc 31 (ls' := [(3, zI (((i : Nat) : Int) + 1)), (2, zI ((tm (zia σ (B 406)) f i : Nat) : Int)), (0, zR (B 400)), (1, zI f)]) dX5_placesWith_28 rfl rfl rfl (by decide) rfl ?_
        refine zF_goto 4 dX5_placesWith_31 rfl ?_
        exact zF_locs (ls' := [(3, zI ((((i + 1)) : Nat) : Int)), (2, zI ((tm (zia σ (B 406)) f (i + 1) : Nat) : Int)), (0, zR (B 400)), (1, zI f)]) ⟨zlI rfl (by first | rfl | omega | (push_cast; omega) | exact congrArg (fun z : Nat => (z : Int)) (ts.trans (if_pos (by omega))).symm | exact congrArg (fun z : Nat => (z : Int)) (ts.trans (if_neg (by omega))).symm), zlI rfl (by first | rfl | omega | (push_cast; omega) | exact congrArg (fun z : Nat => (z : Int)) (ts.trans (if_pos (by omega))).symm | exact congrArg (fun z : Nat => (z : Int)) (ts.trans (if_neg (by omega))).symm), rfl, rfl, trivial⟩ ih4
      · refine zF_iload_n 23 dX5_placesWith_22 rfl rfl ?_
        refine zF_iconst 24 dX5_placesWith_23 rfl ?_
        refine zF_iload_n 25 dX5_placesWith_24 rfl rfl ?_
        refine zF_ishl 26 dX5_placesWith_25 rfl ?_
        refine zF_I (b := ((2 ^ i : Nat) : Int)) (bit_shl ⟨i, by omega⟩) ?_
        refine zF_ior 27 dX5_placesWith_26 rfl ?_
        refine zF_I (b := (((tm (zia σ (B 406)) f i) ||| 2 ^ i : Nat) : Int)) (bit_orp ⟨(tm (zia σ (B 406)) f i), (by first | assumption | omega | exact msk_lt _ _)⟩ ⟨i, by omega⟩) ?_
        refine zF_istore_n 28 (ls' := [(2, zI (((tm (zia σ (B 406)) f i) ||| 2 ^ i : Nat) : Int)), (3, zI ((i : Nat) : Int)), (0, zR (B 400)), (1, zI f)]) dX5_placesWith_27 rfl (by decide) rfl ?_
        refine zF_iinc 31 (ls' := [(3, zI (((i : Nat) : Int) + 1)), (2, zI (((tm (zia σ (B 406)) f i) ||| 2 ^ i : Nat) : Int)), (0, zR (B 400)), (1, zI f)]) dX5_placesWith_28 rfl rfl rfl (by decide) rfl ?_
        refine zF_goto 4 dX5_placesWith_31 rfl ?_
        exact zF_locs (ls' := [(3, zI ((((i + 1)) : Nat) : Int)), (2, zI ((tm (zia σ (B 406)) f (i + 1) : Nat) : Int)), (0, zR (B 400)), (1, zI f)]) ⟨zlI rfl (by first | rfl | omega | (push_cast; omega) | exact congrArg (fun z : Nat => (z : Int)) (ts.trans (if_pos (by omega))).symm | exact congrArg (fun z : Nat => (z : Int)) (ts.trans (if_neg (by omega))).symm), zlI rfl (by first | rfl | omega | (push_cast; omega) | exact congrArg (fun z : Nat => (z : Int)) (ts.trans (if_pos (by omega))).symm | exact congrArg (fun z : Nat => (z : Int)) (ts.trans (if_neg (by omega))).symm), rfl, rfl, trivial⟩ ih4
  · show zF G mX5_placesWith d 4 [(3, zI (((n) : Nat) : Int)), (2, zI ((tm (zia σ (B 406)) f n : Nat) : Int)), (0, zR (B 400)), (1, zI f)] [] σ _
    refine zF_iload_n 5 dX5_placesWith_4 rfl rfl ?_
    refine zF_aload_n 6 dX5_placesWith_5 rfl rfl ?_
    refine zF_getI 9 dX5_placesWith_6 rfl gX5_63 (by decide) (by decide) hP.1 hP.2.1 hcn ?_
    refine zF_icmp_ge 34 12 dX5_placesWith_9 rfl rfl (by first | decide | assumption | exact hch _ (by omega) | (constructor <;> omega)) (by first | decide | assumption | exact hch _ (by omega) | (constructor <;> omega)) (fun c3 => ?_) (fun c3 => ?_)
    · refine zF_iload_n 35 dX5_placesWith_34 rfl rfl ?_
      exact zF_iretP dX5_placesWith_35 rfl (rfl)
    · exact absurd c3 (by omega)
end ZC10

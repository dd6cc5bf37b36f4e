/-! the law says a text: numbers, words, its end -/
section ZT4
variable {G : zG} {M : zMeth} {d pc : Nat} {ls : List (Nat × zV)} {st : List zV} {σ : zMem} {Q : zRes → zMem → Prop} {P : Nat → Int → Prop} {wh : Nat}
def byN : Nat → Nat
  | 0 => 0
  | 1 => 1
  | 2 => 10
  | 3 => 100
  | _ => 1000
/-- the last k digits of v -/
def dgL (v : Nat) : Nat → List Nat
  | 0 => []
  | k + 1 => (48 + v / byN (k + 1) % 10) :: dgL v k
def nd (v : Nat) : Nat := if v < 10 then 1 else if v < 100 then 2 else if v < 1000 then 3 else 4
/-- a number as it is written -/
def dg (v : Nat) : List Nat := dgL v (nd v)
theorem byN_d {y : Nat} (h : y < 4) : byN (y + 1) / 10 = byN y := by
  have c : y = 0 ∨ y = 1 ∨ y = 2 ∨ y = 3 := by omega
  rcases c with c | c | c | c <;> subst c <;> rfl
theorem byN_m {y : Nat} (h0 : 1 ≤ y) (h : y < 4) : byN y * 10 = byN (y + 1) := by
  have c : y = 1 ∨ y = 2 ∨ y = 3 := by omega
  rcases c with c | c | c <;> subst c <;> rfl
theorem byN_p {y : Nat} : 1 ≤ byN (y + 1) ∧ byN (y + 1) ≤ 1000 := by
  by_cases c : y < 4
  · have c : y = 0 ∨ y = 1 ∨ y = 2 ∨ y = 3 := by omega
    rcases c with c | c | c | c <;> subst c <;> decide
  · obtain ⟨k, rfl⟩ : ∃ k, y = k + 4 := ⟨y - 4, by omega⟩
    exact ⟨(by decide : 1 ≤ 1000), (by decide : 1000 ≤ 1000)⟩
theorem byN_0 (y : Nat) : (y = 0 ∧ byN y = 0) ∨ (1 ≤ y ∧ 1 ≤ byN y ∧ byN y ≤ 1000) := by
  by_cases c : y = 0
  · subst c; exact Or.inl ⟨rfl, rfl⟩
  · have := byN_p (y := y - 1)
    rw [show y - 1 + 1 = y by omega] at this
    exact Or.inr ⟨by omega, this⟩
theorem byN_nd {v y : Nat} (hv : v ≤ 9999) (y0 : 1 ≤ y) (y4 : y ≤ 4) (h1 : y = 1 ∨ byN y ≤ v) (h2 : v / 10 < byN y) : y = nd v := by
  have c : y = 1 ∨ y = 2 ∨ y = 3 ∨ y = 4 := by omega
  unfold nd
  rcases c with c | c | c | c <;> subst c
  · have e : byN 1 = 1 := rfl
    rw [if_pos (by omega)]
  · have e : byN 2 = 10 := rfl
    rw [if_neg (by omega), if_pos (by omega)]
  · have e : byN 3 = 100 := rfl
    rw [if_neg (by omega), if_neg (by omega), if_pos (by omega)]
  · have e : byN 4 = 1000 := rfl
    rw [if_neg (by omega), if_neg (by omega), if_neg (by omega)]
theorem dgL_b {v : Nat} : ∀ k, ∀ x ∈ dgL v k, x < 128 := fun k => by
  induction k with
  | zero => intro x h; exact nomatch h
  | succ k ih =>
    intro x h
    rcases List.mem_cons.mp h with e | e
    · rw [e]; omega
    · exact ih x e
theorem dgL_n {v : Nat} : ∀ k, (dgL v k).length = k := fun k => by
  induction k with
  | zero => rfl
  | succ k ih => show (dgL v k).length + 1 = k + 1; rw [ih]
theorem nd_b (v : Nat) : 1 ≤ nd v ∧ nd v ≤ 4 := by
  unfold nd
  split
  · omega
  · split
    · omega
    · split <;> omega
theorem dg_n (v : Nat) : (dg v).length = nd v := dgL_n _
/-- a string's bytes -/
def sN (i : Nat) : List Nat := (zsbi i).map Int.toNat
theorem sN_n (i : Nat) : (sN i).length = zsl i := List.length_map _
theorem sN_c {i k : Nat} (hi : i < 59) (hk : k < zsl i) : zsc i k = (((sN i).getD k 0 : Nat) : Int) ∧ (sN i).getD k 0 < 128 := by
  have b := zsc_b i hi k hk
  have hk2 : k < (zsbi i).length := hk
  have e : (sN i).getD k 0 = (zsc i k).toNat := by
    unfold sN zsc
    rw [List.getD_eq_getElem?_getD, List.getD_eq_getElem?_getD, List.getElem?_map, List.getElem?_eq_getElem hk2]
    rfl
  rw [e]
  omega
theorem sN_t {i k : Nat} (hk : k < zsl i) : (sN i).take (k + 1) = (sN i).take k ++ [(sN i).getD k 0] := by
  have hk2 : k < (sN i).length := by rw [sN_n]; exact hk
  rw [List.take_add_one, List.getD_eq_getElem?_getD, List.getElem?_eq_getElem hk2]
  rfl
theorem zt_L_number {l : List Nat} {v : Nat} (hS : pSh σ) (hT : tI l wh σ) (hv : v ≤ 9999) (h7 : l.length + 4 ≤ 700) (hz : wh < zbg) : zE G mL_number (d + 8) [zR (B0 0), zR wh, zI ((v : Nat) : Int)] σ (fun ro σ1 => ro = .inl none ∧ zFr (tFr wh) σ σ1 ∧ tI (l ++ dg v) wh σ1) := by
  refine zE_of rfl (by simp [zcat]) (Nat.le_of_ble_eq_true rfl) ?_
  show zF G mL_number (d + 8) 0 [(0, zR (B0 0)), (1, zR wh), (2, zI ((v : Nat) : Int))] [] σ _
  have hndb := nd_b v
  refine zF_iconst 1 dL_number_0 rfl ?_
  refine zF_istore_n 2 (ls' := [(3, zI 1), (0, zR (B0 0)), (1, zR wh), (2, zI ((v : Nat) : Int))]) dL_number_1 rfl (by decide) rfl ?_
  refine zF_locs (ls' := [(3, zI ((byN 1 : Nat) : Int)), (0, zR (B0 0)), (1, zR wh), (2, zI ((v : Nat) : Int))]) ⟨zlI rfl (by first | rfl | omega | (push_cast; omega) | exact congrArg (_ + ·) (zbT (by assumption)) | exact congrArg (_ + ·) (zbF (by assumption)) | exact congrArg (_ + ·) (zbT (by omega)) | exact congrArg (_ + ·) (zbF (by omega)) | exact congrArg (_ + ·) (if_pos (by omega)).symm | exact congrArg (_ + ·) (if_neg (by omega)).symm | exact (if_pos (by omega)).symm | exact (if_neg (by omega)).symm | exact zsub_s (if_pos (by omega)).symm | exact zsub_s0 (if_neg (by omega)).symm | exact zadd0 (if_neg (by omega)).symm | exact zadd0 (zbF (by omega)) | exact (Int.sub_zero _).symm), rfl, rfl, rfl, trivial⟩ ?_
  refine zF_while (X := Nat) (fun x => 5 - x) (fun x σ2 => 1 ≤ x ∧ x ≤ 4 ∧ σ2 = σ ∧ (x = 1 ∨ byN x ≤ v)) (fun x => [(3, zI ((byN x : Nat) : Int)), (0, zR (B0 0)), (1, zR wh), (2, zI ((v : Nat) : Int))]) ?_ 1 σ (⟨by omega, by omega, rfl, Or.inl rfl⟩)
  intro x σ2 hI2 ih2
  show zF G mL_number (d + 8) 2 [(3, zI ((byN x : Nat) : Int)), (0, zR (B0 0)), (1, zR wh), (2, zI ((v : Nat) : Int))] [] σ2 _
  obtain ⟨x0, x4, e2, hx⟩ := hI2
  subst e2
  have bx : 1 ≤ byN x ∧ byN x ≤ 1000 := by have := byN_p (y := x - 1); rw [show x - 1 + 1 = x by omega] at this; exact this
  refine zF_iload_n 3 dL_number_2 rfl rfl ?_
  refine zF_iload_n 4 dL_number_3 rfl rfl ?_
  refine zF_bipush 6 dL_number_4 rfl (by decide) ?_
  refine zF_idiv 7 dL_number_6 rfl (by omega) (by omega) (by omega) (by omega) ?_
  refine zF_icmp_gt 18 10 dL_number_7 rfl rfl (by first | decide | assumption | (constructor <;> omega)) (by first | decide | assumption | (constructor <;> omega)) (fun c1 => ?_) (fun c1 => ?_)
  · refine zF_locs (ls' := [(3, zI ((byN x : Nat) : Int)), (0, zR (B0 0)), (1, zR wh), (2, zI ((v : Nat) : Int))]) ⟨rfl, rfl, rfl, rfl, trivial⟩ ?_
    refine zF_while (X := Nat × List Nat) (fun z => z.1) (fun z σ3 => pSh σ3 ∧ zFr (tFr wh) σ2 σ3 ∧ tI z.2 wh σ3 ∧ z.1 ≤ 4 ∧ z.2 ++ dgL v z.1 = l ++ dg v) (fun z => [(3, zI ((byN z.1 : Nat) : Int)), (0, zR (B0 0)), (1, zR wh), (2, zI ((v : Nat) : Int))]) ?_ (x, l) σ2 (⟨hS, zFr.rf, hT, x4, by show l ++ dgL v x = l ++ dgL v (nd v); rw [byN_nd hv x0 x4 hx (by omega)]⟩)
    intro ⟨y9, l2⟩ σ3 hI18 ih18
    show zF G mL_number (d + 8) 18 [(3, zI ((byN y9 : Nat) : Int)), (0, zR (B0 0)), (1, zR wh), (2, zI ((v : Nat) : Int))] [] σ3 _
    obtain ⟨S3, f3, T3, y4, e2⟩ := hI18
    change tI l2 wh σ3 at T3
    change y9 ≤ 4 at y4
    change l2 ++ dgL v y9 = l ++ dg v at e2
    have by9 := byN_0 y9
    refine zF_iload_n 19 dL_number_18 rfl rfl ?_
    refine zF_if_le 44 22 dL_number_19 rfl rfl (by first | decide | assumption | (constructor <;> omega)) (fun c2 => ?_) (fun c2 => ?_)
    · exact zF_return dL_number_44 rfl (by have ey : y9 = 0 := (by omega); subst ey; rw [← e2]; show _ ∧ _ ∧ tI (l2 ++ []) wh σ3; rw [List.append_nil]; exact ⟨rfl, f3, T3⟩)
    · obtain ⟨y, ey⟩ : ∃ y : Nat, y9 = y + 1 := ⟨y9 - 1, by omega⟩
      subst ey
      have by1 := byN_p (y := y)
      have hd2 : (l2 ++ dgL v (y + 1)).length = l2.length + (y + 1) := by rw [List.length_append, dgL_n]
      have hd3 : (l ++ dg v).length = l.length + nd v := by rw [List.length_append, dg_n]
      rw [e2] at hd2
      have hdb : byN (y + 1) / 10 = byN y := byN_d (by omega)
      have hq : ((v : Nat) : Int) / ((byN (y + 1) : Nat) : Int) = ((v / byN (y + 1) : Nat) : Int) := (Int.natCast_ediv _ _).symm
      have hq2 : v / byN (y + 1) ≤ v := Nat.div_le_self _ _
      have hq3 : 0 ≤ ((v : Nat) : Int) / ((byN (y + 1) : Nat) : Int) := Int.ediv_nonneg (by omega) (by omega)
      refine zF_aload_n 23 dL_number_22 rfl rfl ?_
      refine zF_aload_n 24 dL_number_23 rfl rfl ?_
      refine zF_bipush 26 dL_number_24 rfl (by decide) ?_
      refine zF_iload_n 27 dL_number_26 rfl rfl ?_
      refine zF_iload_n 28 dL_number_27 rfl rfl ?_
      refine zF_idiv 29 dL_number_28 rfl (by omega) (by omega) (by omega) (by omega) ?_
      refine zF_bipush 31 dL_number_29 rfl (by decide) ?_
      refine zF_irem 32 dL_number_31 rfl (by omega) (by omega) (by omega) (by omega) ?_
      refine zF_iadd 33 dL_number_32 rfl ?_
      rw [show (48 + ((((v : Nat) : Int) / ((byN (y + 1) : Nat) : Int)) % 10)) = ((48 + v / byN (y + 1) % 10 : Nat) : Int) by push_cast; rfl]
      refine zF_callS 36 (d2 := (d + 7)) (as := [zR (B0 0), zR wh, zI ((48 + v / byN (y + 1) % 10 : Nat) : Int)]) dL_number_33 rfl kL_14 sL_add (Nat.le_refl _) rfl rfl (Nat.le_of_ble_eq_true rfl) (zE.mono (zt_L_add (l := l2) (b := (48 + v / byN (y + 1) % 10)) S3 T3 (by omega) (by omega) hz) fun ro σs33 hh33 => ?_)
      obtain ⟨er33, fr33, T33⟩ := hh33
      subst er33
      refine ⟨fr33.1, ?_⟩
      have S33 := pSh.fr S3 fr33
      show zF G mL_number (d + 8) 36 [(3, zI ((byN (y + 1) : Nat) : Int)), (0, zR (B0 0)), (1, zR wh), (2, zI ((v : Nat) : Int))] [] σs33 _
      refine zF_iload_n 37 dL_number_36 rfl rfl ?_
      refine zF_bipush 39 dL_number_37 rfl (by decide) ?_
      refine zF_idiv 40 dL_number_39 rfl (by omega) (by omega) (by omega) (by omega) ?_
      refine zF_istore_n 41 (ls' := [(3, zI (((byN (y + 1) : Nat) : Int) / 10)), (0, zR (B0 0)), (1, zR wh), (2, zI ((v : Nat) : Int))]) dL_number_40 rfl (by decide) rfl ?_
      refine zF_goto 18 dL_number_41 rfl ?_
      exact zF_locs (ls' := [(3, zI ((byN y : Nat) : Int)), (0, zR (B0 0)), (1, zR wh), (2, zI ((v : Nat) : Int))]) ⟨zlI rfl (by first | rfl | omega | (push_cast; omega) | exact congrArg (_ + ·) (zbT (by assumption)) | exact congrArg (_ + ·) (zbF (by assumption)) | exact congrArg (_ + ·) (zbT (by omega)) | exact congrArg (_ + ·) (zbF (by omega)) | exact congrArg (_ + ·) (if_pos (by omega)).symm | exact congrArg (_ + ·) (if_neg (by omega)).symm | exact (if_pos (by omega)).symm | exact (if_neg (by omega)).symm | exact zsub_s (if_pos (by omega)).symm | exact zsub_s0 (if_neg (by omega)).symm | exact zadd0 (if_neg (by omega)).symm | exact zadd0 (zbF (by omega)) | exact (Int.sub_zero _).symm), rfl, rfl, rfl, trivial⟩ (ih18 (y, (l2 ++ [48 + v / byN (y + 1) % 10])) _ (by show y < y + 1; omega) (⟨S33, f3.tr fr33, T33, by show y ≤ 4; omega, by show (l2 ++ [48 + v / byN (y + 1) % 10]) ++ dgL v y = _; rw [List.append_assoc]; exact e2⟩))
  · have e4 : x ≠ 4 := fun z => by subst z; have q4 : byN 4 = 1000 := rfl; omega
    have bm : byN x * 10 = byN (x + 1) := byN_m x0 (by omega)
    refine zF_iload_n 11 dL_number_10 rfl rfl ?_
    refine zF_bipush 13 dL_number_11 rfl (by decide) ?_
    refine zF_imul 14 dL_number_13 rfl ?_
    refine zF_istore_n 15 (ls' := [(3, zI (((byN x : Nat) : Int) * 10)), (0, zR (B0 0)), (1, zR wh), (2, zI ((v : Nat) : Int))]) dL_number_14 rfl (by decide) rfl ?_
    refine zF_goto 2 dL_number_15 rfl ?_
    exact zF_locs (ls' := [(3, zI ((byN (x + 1) : Nat) : Int)), (0, zR (B0 0)), (1, zR wh), (2, zI ((v : Nat) : Int))]) ⟨zlI rfl (by first | rfl | omega | (push_cast; omega) | exact congrArg (_ + ·) (zbT (by assumption)) | exact congrArg (_ + ·) (zbF (by assumption)) | exact congrArg (_ + ·) (zbT (by omega)) | exact congrArg (_ + ·) (zbF (by omega)) | exact congrArg (_ + ·) (if_pos (by omega)).symm | exact congrArg (_ + ·) (if_neg (by omega)).symm | exact (if_pos (by omega)).symm | exact (if_neg (by omega)).symm | exact zsub_s (if_pos (by omega)).symm | exact zsub_s0 (if_neg (by omega)).symm | exact zadd0 (if_neg (by omega)).symm | exact zadd0 (zbF (by omega)) | exact (Int.sub_zero _).symm), rfl, rfl, rfl, trivial⟩ (ih2 (x + 1) _ (by omega) (⟨by omega, by omega, rfl, Or.inr (by rw [← byN_m x0 (by omega)]; omega)⟩))
theorem zt_L_word {l : List Nat} {i : Nat} (hG : zOS G) (hi : i < 59) (hS : pSh σ) (hT : tI l wh σ) (h7 : l.length + zsl i ≤ 700) (hz : wh < zbg) : zE G mL_word (d + 8) [zR (B0 0), zR wh, zR (zbg + i)] σ (fun ro σ1 => ro = .inl none ∧ zFr (tFr wh) σ σ1 ∧ tI (l ++ sN i) wh σ1) := by
  refine zE_of rfl (by simp [zcat]) (Nat.le_of_ble_eq_true rfl) ?_
  show zF G mL_word (d + 8) 0 [(0, zR (B0 0)), (1, zR wh), (2, zR (zbg + i))] [] σ _
  have hsn := sN_n i
  refine zF_iconst 1 dL_word_0 rfl ?_
  refine zF_istore_n 2 (ls' := [(3, zI 0), (0, zR (B0 0)), (1, zR wh), (2, zR (zbg + i))]) dL_word_1 rfl (by decide) rfl ?_
  refine zF_locs (ls' := [(3, zI ((0 : Nat) : Int)), (0, zR (B0 0)), (1, zR wh), (2, zR (zbg + i))]) ⟨zlI rfl (by first | rfl | omega | (push_cast; omega) | exact congrArg (_ + ·) (zbT (by assumption)) | exact congrArg (_ + ·) (zbF (by assumption)) | exact congrArg (_ + ·) (zbT (by omega)) | exact congrArg (_ + ·) (zbF (by omega)) | exact congrArg (_ + ·) (if_pos (by omega)).symm | exact congrArg (_ + ·) (if_neg (by omega)).symm | exact (if_pos (by omega)).symm | exact (if_neg (by omega)).symm | exact zsub_s (if_pos (by omega)).symm | exact zsub_s0 (if_neg (by omega)).symm | exact zadd0 (if_neg (by omega)).symm | exact zadd0 (zbF (by omega)) | exact (Int.sub_zero _).symm), rfl, rfl, rfl, trivial⟩ ?_
  refine zF_while (X := Nat) (fun x => zsl i - x) (fun x σ2 => x ≤ zsl i ∧ pSh σ2 ∧ zFr (tFr wh) σ σ2 ∧ tI (l ++ (sN i).take x) wh σ2) (fun x => [(3, zI ((x : Nat) : Int)), (0, zR (B0 0)), (1, zR wh), (2, zR (zbg + i))]) ?_ 0 σ (⟨by omega, hS, zFr.rf, by rw [List.take_zero, List.append_nil]; exact hT⟩)
  intro x σ2 hI2 ih2
  show zF G mL_word (d + 8) 2 [(3, zI ((x : Nat) : Int)), (0, zR (B0 0)), (1, zR wh), (2, zR (zbg + i))] [] σ2 _
  obtain ⟨hx, S2, f2, T2⟩ := hI2
  have hlx : (l ++ (sN i).take x).length = l.length + x := by rw [List.length_append, List.length_take, hsn]; omega
  refine zF_iload_n 3 dL_word_2 rfl rfl ?_
  refine zF_aload_n 4 dL_word_3 rfl rfl ?_
  refine zF_callOi 7 (d2 := (d + 7)) (as := []) dL_word_4 rfl kL_61 iJ0_length_8abf5 (hG.1 i hi).1 eJ0_length_8abf5 (Nat.le_refl _) rfl rfl (Nat.le_of_ble_eq_true rfl) (zt_J0_length hG hi) ?_
  refine zF_icmp_ge 26 10 dL_word_7 rfl rfl (by first | decide | assumption | (constructor <;> omega)) (by first | decide | assumption | (constructor <;> omega)) (fun c1 => ?_) (fun c1 => ?_)
  · exact zF_return dL_word_26 rfl (by have ex : x = zsl i := (by omega); subst ex; rw [← hsn, List.take_length] at T2; exact ⟨rfl, f2, T2⟩)
  · refine zF_aload_n 11 dL_word_10 rfl rfl ?_
    refine zF_aload_n 12 dL_word_11 rfl rfl ?_
    refine zF_aload_n 13 dL_word_12 rfl rfl ?_
    refine zF_iload_n 14 dL_word_13 rfl rfl ?_
    refine zF_callOi 17 (d2 := (d + 7)) (as := [zI ((x : Nat) : Int)]) dL_word_14 rfl kL_67 iJ0_charAt_5068e (hG.1 i hi).1 eJ0_charAt_5068e (Nat.le_refl _) rfl rfl (Nat.le_of_ble_eq_true rfl) ((show zP1 G mJ0_charAt_5068e _ _ σ2 (((sN i).getD x 0 : Nat) : Int) from by rw [← (sN_c hi (by omega)).1]; exact zt_J0_charAt hG hi (by omega))) ?_
    refine zF_callS 20 (d2 := (d + 7)) (as := [zR (B0 0), zR wh, zI (((sN i).getD x 0 : Nat) : Int)]) dL_word_17 rfl kL_14 sL_add (Nat.le_refl _) rfl rfl (Nat.le_of_ble_eq_true rfl) (zE.mono (zt_L_add (l := (l ++ (sN i).take x)) (b := ((sN i).getD x 0)) S2 T2 ((sN_c hi (by omega)).2) (by omega) hz) fun ro σs17 hh17 => ?_)
    obtain ⟨er17, fr17, T17⟩ := hh17
    subst er17
    refine ⟨fr17.1, ?_⟩
    have S17 := pSh.fr S2 fr17
    show zF G mL_word (d + 8) 20 [(3, zI ((x : Nat) : Int)), (0, zR (B0 0)), (1, zR wh), (2, zR (zbg + i))] [] σs17 _
    refine zF_iinc 23 (ls' := [(3, zI (((x : Nat) : Int) + 1)), (0, zR (B0 0)), (1, zR wh), (2, zR (zbg + i))]) dL_word_20 rfl rfl rfl (by decide) rfl ?_
    refine zF_goto 2 dL_word_23 rfl ?_
    exact zF_locs (ls' := [(3, zI (((x + 1) : Nat) : Int)), (0, zR (B0 0)), (1, zR wh), (2, zR (zbg + i))]) ⟨zlI rfl (by first | rfl | omega | (push_cast; omega) | exact congrArg (_ + ·) (zbT (by assumption)) | exact congrArg (_ + ·) (zbF (by assumption)) | exact congrArg (_ + ·) (zbT (by omega)) | exact congrArg (_ + ·) (zbF (by omega)) | exact congrArg (_ + ·) (if_pos (by omega)).symm | exact congrArg (_ + ·) (if_neg (by omega)).symm | exact (if_pos (by omega)).symm | exact (if_neg (by omega)).symm | exact zsub_s (if_pos (by omega)).symm | exact zsub_s0 (if_neg (by omega)).symm | exact zadd0 (if_neg (by omega)).symm | exact zadd0 (zbF (by omega)) | exact (Int.sub_zero _).symm), rfl, rfl, rfl, trivial⟩ (ih2 (x + 1) _ (by omega) (⟨by omega, S17, f2.tr fr17, by rw [sN_t (by omega), ← List.append_assoc]; exact T17⟩))
theorem zt_L_with {l : List Nat} {i v : Nat} (hG : zOS G) (hi : i < 59) (hS : pSh σ) (hT : tI l wh σ) (hv : v ≤ 9999) (h7 : l.length + zsl i + 4 ≤ 700) (hz : wh < zbg) : zE G mL_with (d + 9) [zR (B0 0), zR wh, zR (zbg + i), zI ((v : Nat) : Int)] σ (fun ro σ1 => ro = .inl none ∧ zFr (tFr wh) σ σ1 ∧ tI (l ++ sN i ++ dg v) wh σ1) := by
  refine zE_of rfl (by simp [zcat]) (Nat.le_of_ble_eq_true rfl) ?_
  show zF G mL_with (d + 9) 0 [(0, zR (B0 0)), (1, zR wh), (2, zR (zbg + i)), (3, zI ((v : Nat) : Int))] [] σ _
  have hsn := sN_n i
  refine zF_aload_n 1 dL_with_0 rfl rfl ?_
  refine zF_aload_n 2 dL_with_1 rfl rfl ?_
  refine zF_aload_n 3 dL_with_2 rfl rfl ?_
  refine zF_callS 6 (d2 := (d + 8)) (as := [zR (B0 0), zR wh, zR (zbg + i)]) dL_with_3 rfl kL_71 sL_word (Nat.le_refl _) rfl rfl (Nat.le_of_ble_eq_true rfl) (zE.mono (zt_L_word hG hi hS hT (by omega) hz) fun ro σs3 hh3 => ?_)
  obtain ⟨er3, fr3, T3⟩ := hh3
  subst er3
  refine ⟨fr3.1, ?_⟩
  have S3 := pSh.fr hS fr3
  have hl3 := T3.2.2.1.2
  show zF G mL_with (d + 9) 6 [(0, zR (B0 0)), (1, zR wh), (2, zR (zbg + i)), (3, zI ((v : Nat) : Int))] [] σs3 _
  refine zF_aload_n 7 dL_with_6 rfl rfl ?_
  refine zF_aload_n 8 dL_with_7 rfl rfl ?_
  refine zF_iload_n 9 dL_with_8 rfl rfl ?_
  refine zF_callS 12 (d2 := (d + 8)) (as := [zR (B0 0), zR wh, zI ((v : Nat) : Int)]) dL_with_9 rfl kL_75 sL_number (Nat.le_refl _) rfl rfl (Nat.le_of_ble_eq_true rfl) (zE.mono (zt_L_number  S3 T3 hv (by rw [List.length_append, hsn]; omega) hz) fun ro σs9 hh9 => ?_)
  obtain ⟨er9, fr9, T9⟩ := hh9
  subst er9
  refine ⟨fr9.1, ?_⟩
  have S9 := pSh.fr S3 fr9
  have hl9 := T9.2.2.1.2
  show zF G mL_with (d + 9) 12 [(0, zR (B0 0)), (1, zR wh), (2, zR (zbg + i)), (3, zI ((v : Nat) : Int))] [] σs9 _
  exact zF_return dL_with_12 rfl (⟨rfl, fr3.tr fr9, T9⟩)
/-- a text is fed whole -/
def eI (l : List Nat) (wh : Nat) (σ : zMem) : Prop := zkd σ wh = (1, 6) ∧ (228 ≤ wh ∧ wh < zn σ) ∧ (∀ k : Nat, k < 6 → zia σ wh k = 0) ∧ ∃ c : Nat, zia σ (B0 0) ((1 : Nat) : Int) = (c : Int) ∧ l.length ≤ c ∧ c ≤ 700 ∧ ∀ j : Nat, j < l.length → zia σ (B0 10) j = ((l.getD j 0 : Nat) : Int)
theorem eI_of {l l2 : List Nat} {x : Nat} {σ2 : zMem} (h : tI l2 wh σ2) (e : l2 = l ++ List.replicate x 32) (hm : l2.length % 20 = 0) (hw0 : ∀ k, B0 k ≠ wh) : eI l wh (zsi σ2 wh 5 0) := by
  have hn : l2.length = l.length + x := by rw [e, List.length_append, List.length_replicate]
  have e20 : 20 * (l2.length / 20) = l2.length := by omega
  refine ⟨h.1, h.2.1, fun k hk => ?_, l2.length, ?_, by omega, h.2.2.1.2, fun j hj => ?_⟩
  · rw [zia_si]
    by_cases c : k = 5
    · rw [if_pos ⟨rfl, by omega⟩]
    · rw [if_neg (by omega), h.2.2.2.2.2.2 k (by omega), e20, pkB_congr (g := fun _ => 0) (fun i hi => tg_out (by omega))]
      rfl
  · rw [zia_si, if_neg (fun z => hw0 0 z.1), h.2.2.2.2.1, e20]
  · rw [zia_si, if_neg (fun z => hw0 10 z.1), h.2.2.2.2.2.1 j (by omega), e, List.getD_eq_getElem?_getD, List.getD_eq_getElem?_getD, List.getElem?_append_left hj]
theorem zt_L_end {l : List Nat} (hS : pSh σ) (hT : tI l wh σ) (hz : wh < zbg) : zE G mL_end (d + 8) [zR (B0 0), zR wh] σ (fun ro σ1 => ro = .inl (some (zI ((l.length : Nat) : Int))) ∧ zFr (tFr wh) σ σ1 ∧ eI l wh σ1) := by
  refine zE_of rfl (by simp [zcat]) (Nat.le_of_ble_eq_true rfl) ?_
  show zF G mL_end (d + 8) 0 [(0, zR (B0 0)), (1, zR wh)] [] σ _
  have hw0 : ∀ k, B0 k ≠ wh := fun k => B0_w hT.2.1.1 hz k
  have hll := hT.2.2.1.2
  refine zF_aload_n 1 dL_end_0 rfl rfl ?_
  refine zF_iconst 2 dL_end_1 rfl ?_
  refine zF_iaload 3 dL_end_2 rfl hT.1 hT.2.1.2 (by omega) (by omega) hT.2.2.2.1 ?_
  refine zF_istore_n 4 (ls' := [(2, zI ((l.length : Nat) : Int)), (0, zR (B0 0)), (1, zR wh)]) dL_end_3 rfl (by decide) rfl ?_
  refine zF_locs (ls' := [(2, zI ((l.length : Nat) : Int)), (0, zR (B0 0)), (1, zR wh)]) ⟨rfl, rfl, rfl, trivial⟩ ?_
  refine zF_while (X := Nat) (fun x => (700 - l.length) - x) (fun x σ2 => l.length + x ≤ 700 ∧ pSh σ2 ∧ zFr (tFr wh) σ σ2 ∧ tI (l ++ List.replicate x 32) wh σ2) (fun x => [(2, zI ((l.length : Nat) : Int)), (0, zR (B0 0)), (1, zR wh)]) ?_ 0 σ (⟨by omega, hS, zFr.rf, by rw [List.replicate_zero, List.append_nil]; exact hT⟩)
  intro x σ2 hI4 ih4
  show zF G mL_end (d + 8) 4 [(2, zI ((l.length : Nat) : Int)), (0, zR (B0 0)), (1, zR wh)] [] σ2 _
  obtain ⟨hx, S2, f2, T2⟩ := hI4
  have hlx : (l ++ List.replicate x 32).length = l.length + x := by rw [List.length_append, List.length_replicate]
  refine zF_aload_n 5 dL_end_4 rfl rfl ?_
  refine zF_iconst 6 dL_end_5 rfl ?_
  refine zF_iaload 7 dL_end_6 rfl T2.1 T2.2.1.2 (by omega) (by omega) T2.2.2.2.1 ?_
  refine zF_bipush 9 dL_end_7 rfl (by decide) ?_
  refine zF_irem 10 dL_end_9 rfl (by omega) (by omega) (by omega) (by omega) ?_
  refine zF_if_eq 23 13 dL_end_10 rfl rfl (by first | decide | assumption | (constructor <;> omega)) (fun c1 => ?_) (fun c1 => ?_)
  · refine zF_aload_n 24 dL_end_23 rfl rfl ?_
    refine zF_iconst 25 dL_end_24 rfl ?_
    refine zF_iconst 26 dL_end_25 rfl ?_
    refine zF_iastore 27 dL_end_26 rfl T2.1 T2.2.1.2 (by omega) (by omega) ?_
    refine zF_iload_n 28 dL_end_27 rfl rfl ?_
    exact zF_ireturn dL_end_28 rfl (⟨rfl, zFr_si (Or.inl rfl) f2, eI_of T2 rfl (by omega) hw0⟩)
  · refine zF_aload_n 14 dL_end_13 rfl rfl ?_
    refine zF_aload_n 15 dL_end_14 rfl rfl ?_
    refine zF_bipush 17 dL_end_15 rfl (by decide) ?_
    refine zF_callS 20 (d2 := (d + 7)) (as := [zR (B0 0), zR wh, zI 32]) dL_end_17 rfl kL_14 sL_add (Nat.le_refl _) rfl rfl (Nat.le_of_ble_eq_true rfl) (zE.mono (zt_L_add (l := (l ++ List.replicate x 32)) (b := 32) S2 T2 (by decide) (by omega) hz) fun ro σs17 hh17 => ?_)
    obtain ⟨er17, fr17, T17⟩ := hh17
    subst er17
    refine ⟨fr17.1, ?_⟩
    have S17 := pSh.fr S2 fr17
    show zF G mL_end (d + 8) 20 [(2, zI ((l.length : Nat) : Int)), (0, zR (B0 0)), (1, zR wh)] [] σs17 _
    refine zF_goto 4 dL_end_20 rfl ?_
    exact zF_locs (ls' := [(2, zI ((l.length : Nat) : Int)), (0, zR (B0 0)), (1, zR wh)]) ⟨rfl, rfl, rfl, trivial⟩ (ih4 (x + 1) _ (by omega) (⟨by omega, S17, f2.tr fr17, by rw [List.replicate_succ', ← List.append_assoc]; exact T17⟩))
end ZT4

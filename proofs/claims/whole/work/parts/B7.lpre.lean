/-! what the law's start gives -/
section ZST
abbrev lw_fl : List Cond := flatC (Cond.and given_1 narrow_1)
def zst (i : Nat) : Term := .string ((zstr[i]?).getD ("", 0, "")).1 ((zstr[i]?).getD ("", 0, "")).2.1
def zpn (j : Nat) : String := ["SCREEN", "HOUSE", "SEATS", "CAPACITY", "RENT", "BOOKED", "HELD", "TAKINGS_NOW", "VISITORS_NOW"].getD j ""
def zpt (j : Nat) : Term := .static "CinemaChain$Property" (zpn j) "LCinemaChain$Property;"
abbrev zvt (t : Term) : Term := .field t "java/lang/String" "value" "[B"
abbrev zDt : Term := .static "java/lang/Integer" "DigitOnes" "[B"
abbrev zPt : Term := .static "CinemaChain" "PROPERTIES" "[LCinemaChain$Property;"
abbrev zWt : Term := .static "CinemaChain$1" "$SwitchMap$CinemaChain$Property" "[I"
theorem ls_n : zstr.length = 59 := by decide
theorem ls_ex : ∀ i ∈ List.range 59, Cond.exactly (zst i) "java/lang/String" ∈ lw_fl := by decide +kernel
theorem ls_co : ∀ i ∈ List.range 59, Cond.eq (.field (zst i) "java/lang/String" "coder" "B") (.int 0) ∈ lw_fl := by decide +kernel
theorem ls_ar : ∀ i ∈ List.range 59, Cond.arrayOf (zvt (zst i)) .byte ∈ lw_fl := by decide +kernel
theorem ls_le : ∀ i ∈ List.range 59, Cond.eq (.length (zvt (zst i))) (.int (Int32.ofNat (zsl i))) ∈ lw_fl := by decide +kernel
theorem ls_el : ∀ i ∈ List.range 59, ∀ j ∈ List.range (zsl i), Cond.eq (.elem (zvt (zst i)) (.int (Int32.ofNat j))) (.int (Int32.ofInt (zsc i j))) ∈ lw_fl := by decide +kernel
theorem ls_sr : ∀ i ∈ List.range 59, Cond.stringRef ((zstr[i]?).getD ("", 0, "")).1 ((zstr[i]?).getD ("", 0, "")).2.1 ((zstr[i]?).getD ("", 0, "")).2.2 ∈ lw_tbl := by decide +kernel
theorem lp_ex : ∀ j ∈ List.range 9, Cond.exactly (zpt j) "CinemaChain$Property" ∈ lw_fl := by decide +kernel
theorem lp_or : ∀ j ∈ List.range 9, Cond.eq (.field (zpt j) "java/lang/Enum" "ordinal" "I") (.int (Int32.ofInt (j : Int))) ∈ lw_fl := by decide +kernel
theorem lp_wd : ∀ j ∈ List.range 9, Cond.eq (.field (zpt j) "CinemaChain$Property" "word" "Ljava/lang/String;") (zst (50 + j)) ∈ lw_fl := by decide +kernel
theorem lp_ar : Cond.arrayOf zPt (.object "CinemaChain$Property") ∈ lw_fl := by decide +kernel
theorem lp_le : Cond.eq (.length zPt) (.int (Int32.ofNat 9)) ∈ lw_fl := by decide +kernel
theorem lp_el : ∀ j ∈ List.range 9, Cond.eq (.elem zPt (.int (Int32.ofNat j))) (zpt j) ∈ lw_fl := by decide +kernel
theorem lp_wa : Cond.arrayOf zWt .int ∈ lw_fl := by decide +kernel
theorem lp_wl : Cond.eq (.length zWt) (.int (Int32.ofNat 9)) ∈ lw_fl := by decide +kernel
theorem lp_we : ∀ j ∈ List.range 9, Cond.eq (.elem zWt (.int (Int32.ofNat j))) (.int (Int32.ofInt (if j = 8 then 0 else (j : Int) + 1))) ∈ lw_fl := by decide +kernel
theorem ld_ar : Cond.arrayOf zDt .byte ∈ lw_fl := by decide +kernel
theorem ld_le : Cond.eq (.length zDt) (.int (Int32.ofNat 100)) ∈ lw_fl := by decide +kernel
theorem ld_el : ∀ j ∈ List.range 100, Cond.eq (.elem zDt (.int (Int32.ofNat j))) (.int (Int32.ofInt (48 + ((j % 10 : Nat) : Int)))) ∈ lw_fl := by decide +kernel
theorem lc_cs : Cond.eq (.static "java/lang/String" "COMPACT_STRINGS" "Z") (.int (Int32.ofInt 1)) ∈ lw_fl := by decide +kernel
theorem lc_si : Cond.isRef (.static "jdk/internal/util/Preconditions" "SIOOBE_FORMATTER" "Ljava/util/function/BiFunction;") ∈ lw_fl := by decide +kernel
theorem lc_us : Cond.isRef (.static "java/lang/Throwable" "UNASSIGNED_STACK" "[Ljava/lang/StackTraceElement;") ∈ lw_fl := by decide +kernel
theorem lc_ss : Cond.isRef (.static "java/lang/Throwable" "SUPPRESSED_SENTINEL" "Ljava/util/List;") ∈ lw_fl := by decide +kernel
theorem lc_nc : Cond.not (.castable eIAE eNSE) ∈ lw_fl := by decide +kernel
variable {s : State} {args : Array Value}
theorem va_eqr {t u : Term} {a : Nat} (h : (Cond.eq t u).before args s = true) (hu : u.eval args s none [] s = some (.ref a)) : t.eval args s none [] s = some (.ref a) := by
  cases hv : t.eval args s none [] s with
  | none => simp [Cond.before, Cond.holds, Cond.value, hv] at h
  | some w =>
    simp only [Cond.before, Cond.holds, Cond.value, hv, hu] at h
    cases w <;> simp_all
abbrev lA (s : State) : Nat → Prop := fun q => s.heap.size ≤ q
theorem lA_n (s : State) : ∀ a : Nat, a < s.heap.size → ¬ lA s a := fun a h => Nat.not_le.mpr h
theorem lw_str (hs : ∀ w ∈ lw_fl, w.before args s = true) : ∃ ad : Nat → Nat × Nat, ∀ i, i < 59 → (zst i).eval args s none [] s = some (.ref (ad i).1) ∧ va_O "java/lang/String" (ad i).1 (lA s) s s.heap ∧ va_OF "java/lang/String" "coder" "B" (.int (Int32.ofInt 0)) (ad i).1 (lA s) s s.heap ∧ va_OF "java/lang/String" "value" "[B" (.ref (ad i).2) (ad i).1 (lA s) s s.heap ∧ va_T .byte (ad i).2 (zsl i) (fun j => .int (Int32.ofInt (zsc i j))) (lA s) s s.heap := by
  have h0 : ∀ i : Nat, ∃ q : Nat × Nat, i < 59 → (zst i).eval args s none [] s = some (.ref q.1) ∧ va_O "java/lang/String" q.1 (lA s) s s.heap ∧ va_OF "java/lang/String" "coder" "B" (.int (Int32.ofInt 0)) q.1 (lA s) s s.heap ∧ va_OF "java/lang/String" "value" "[B" (.ref q.2) q.1 (lA s) s s.heap ∧ va_T .byte q.2 (zsl i) (fun j => .int (Int32.ofInt (zsc i j))) (lA s) s s.heap := by
    intro i
    by_cases hi : i < 59
    · have hm := List.mem_range.mpr hi
      have hA := lA_n s
      have hb : zsl i < 2 ^ 31 := by
        have q : ∀ i ∈ List.range 59, zsl i < 2 ^ 31 := by decide +kernel
        exact q i hm
      obtain ⟨a, c, cA, kA, q1, q2, q3, q4, q5, q6, -⟩ := Cond.exactly_spec (args := args) (first := s) (o := none) (s := s) (idx := []) (t := zst i) (cls := "java/lang/String") (hs _ (ls_ex i hm))
      obtain ⟨t, ht, hT⟩ := va_Tof (f := fun j => .int (Int32.ofInt (zsc i j))) (A := lA s) hb (hs _ (ls_ar i hm)) (va_eqt (hs _ (ls_le i hm))) (fun j hj => va_eqt (hs _ (ls_el i hm j (List.mem_range.mpr hj)))) hA
      exact ⟨(a, t), fun _ => ⟨q1, ⟨cA, q3, q5, by rw [q6]; exact q2, hA a (Array.getElem?_eq_some_iff.mp q3).1⟩, vk_OFof q1 (va_eqt (hs _ (ls_co i hm))) hA, vk_OFof q1 ht hA, hT⟩⟩
    · exact ⟨(0, 0), fun h => absurd h hi⟩
  exact Classical.axiomOfChoice h0
theorem lw_prp (hs : ∀ w ∈ lw_fl, w.before args s = true) {ad : Nat → Nat × Nat} (ha : ∀ i, i < 59 → (zst i).eval args s none [] s = some (.ref (ad i).1)) : ∃ pr : Nat → Nat, ∀ j, j < 9 → (zpt j).eval args s none [] s = some (.ref (pr j)) ∧ va_O "CinemaChain$Property" (pr j) (lA s) s s.heap ∧ va_OF "java/lang/Enum" "ordinal" "I" (.int (Int32.ofInt (j : Int))) (pr j) (lA s) s s.heap ∧ va_OF "CinemaChain$Property" "word" "Ljava/lang/String;" (.ref (ad (50 + j)).1) (pr j) (lA s) s s.heap := by
  have h0 : ∀ j : Nat, ∃ q : Nat, j < 9 → (zpt j).eval args s none [] s = some (.ref q) ∧ va_O "CinemaChain$Property" q (lA s) s s.heap ∧ va_OF "java/lang/Enum" "ordinal" "I" (.int (Int32.ofInt (j : Int))) q (lA s) s s.heap ∧ va_OF "CinemaChain$Property" "word" "Ljava/lang/String;" (.ref (ad (50 + j)).1) q (lA s) s s.heap := by
    intro j
    by_cases hj : j < 9
    · have hm := List.mem_range.mpr hj
      have hA := lA_n s
      obtain ⟨a, c, cA, kA, q1, q2, q3, q4, q5, q6, -⟩ := Cond.exactly_spec (args := args) (first := s) (o := none) (s := s) (idx := []) (t := zpt j) (cls := "CinemaChain$Property") (hs _ (lp_ex j hm))
      exact ⟨a, fun _ => ⟨q1, ⟨cA, q3, q5, by rw [q6]; exact q2, hA a (Array.getElem?_eq_some_iff.mp q3).1⟩, vk_OFof q1 (va_eqt (hs _ (lp_or j hm))) hA, vk_OFof q1 (va_eqr (hs _ (lp_wd j hm)) (ha _ (by omega))) hA⟩⟩
    · exact ⟨0, fun h => absurd h hj⟩
  exact Classical.axiomOfChoice h0
theorem lw_arr (hs : ∀ w ∈ lw_fl, w.before args s = true) {pr : Nat → Nat} (hp : ∀ j, j < 9 → (zpt j).eval args s none [] s = some (.ref (pr j))) : ∃ a b c : Nat, (zPt.eval args s none [] s = some (.ref a) ∧ va_T (.object "CinemaChain$Property") a 9 (fun j => .ref (pr j)) (lA s) s s.heap) ∧ (zWt.eval args s none [] s = some (.ref b) ∧ va_T .int b 9 (fun j => .int (Int32.ofInt (if j = 8 then 0 else (j : Int) + 1))) (lA s) s s.heap) ∧ (zDt.eval args s none [] s = some (.ref c) ∧ va_T .byte c 100 (fun j => .int (Int32.ofInt (48 + ((j % 10 : Nat) : Int)))) (lA s) s s.heap) := by
  have hA := lA_n s
  obtain ⟨a, a1, a2⟩ := va_Tof (f := fun j => .ref (pr j)) (A := lA s) (N := 9) (by decide) (hs _ lp_ar) (va_eqt (hs _ lp_le)) (fun j hj => va_eqr (hs _ (lp_el j (List.mem_range.mpr hj))) (hp j hj)) hA
  obtain ⟨b, b1, b2⟩ := va_Tof (f := fun j => .int (Int32.ofInt (if j = 8 then 0 else (j : Int) + 1))) (A := lA s) (N := 9) (by decide) (hs _ lp_wa) (va_eqt (hs _ lp_wl)) (fun j hj => va_eqt (hs _ (lp_we j (List.mem_range.mpr hj)))) hA
  obtain ⟨c, c1, c2⟩ := va_Tof (f := fun j => .int (Int32.ofInt (48 + ((j % 10 : Nat) : Int)))) (A := lA s) (N := 100) (by decide) (hs _ ld_ar) (va_eqt (hs _ ld_le)) (fun j hj => va_eqt (hs _ (ld_el j (List.mem_range.mpr hj)))) hA
  exact ⟨a, b, c, ⟨a1, a2⟩, ⟨b1, b2⟩, c1, c2⟩
/-- the words of the tables -/
theorem lw_all_b (hts : ∀ w ∈ lw_tbl, w.before args s = true) : ∀ w ∈ lw_all, w.before args s = true := by
  have h2 : (Cond.selects RJ4 yJ5_isLatin1_aae02 yJ5_isLatin1_aae02).before args s = true := hts _ (by decide +kernel)
  obtain ⟨c2, _, _, q1, _, _, _, _, _, _⟩ := Cond.selects_spec h2
  have sb : ∀ w ∈ lw_sb, w.before args s = true := by
    intro w hw
    have hw2 : w = Cond.selects RJ4 yJ5_ensureCapacityInternal_d00df yJ5_ensureCapacityInternal_d00df ∨ w = Cond.selects RJ4 yJ5_newCapacity_0f7a4 yJ5_newCapacity_0f7a4 ∨ w = Cond.selects RJ4 yJ5_putStringAt_47b60 yJ5_putStringAt_47b60 ∨ w = Cond.selects RJ4 yJ5_inflateIfNeededFor_a7421 yJ5_inflateIfNeededFor_a7421 := by simpa [lw_sb] using hw
    rcases hw2 with e | e | e | e <;> subst e
    · exact zsel_sb rfl q1 rfl h2 (hts _ (by decide +kernel)) (hts _ (by decide +kernel))
    · exact zsel_sb rfl q1 rfl h2 (hts _ (by decide +kernel)) (hts _ (by decide +kernel))
    · exact zsel_sb rfl q1 rfl h2 (hts _ (by decide +kernel)) (hts _ (by decide +kernel))
    · exact zsel_sb rfl q1 rfl h2 (hts _ (by decide +kernel)) (hts _ (by decide +kernel))
  exact fun w hw => (List.mem_append.mp (List.mem_filter.mp hw).1).elim (sb w) (hts w)
theorem ls_aI : Cond.arrayClass .int ∈ lw_tbl := by decide +kernel
theorem ls_aB : Cond.arrayClass .byte ∈ lw_tbl := by decide +kernel
theorem ls_aZ : Cond.arrayClass .boolean ∈ lw_tbl := by decide +kernel
theorem ls_aJ : Cond.arrayClass .long ∈ lw_tbl := by decide +kernel
theorem ls_oS : Cond.arrayOver (.object "CinemaChain$State") ∈ lw_tbl := by decide +kernel
theorem ls_oT : Cond.arrayOver (.object "java/lang/String") ∈ lw_tbl := by decide +kernel
end ZST

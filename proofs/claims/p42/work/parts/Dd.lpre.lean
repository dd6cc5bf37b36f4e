/-! what the law's start gives -/
section ZST
abbrev lw_fl : List Cond := flatC (Cond.and given_1 narrow_1)
def zst (i : Nat) : Term := .string ((zstr[i]?).getD ("", 0, "")).1 ((zstr[i]?).getD ("", 0, "")).2.1
abbrev zvt (t : Term) : Term := .field t "java/lang/String" "value" "[B"
theorem ls_n : zstr.length = 59 := by decide
def zpa : List (List Nat) := [[992, 272, 400, 336, 720, 976, 304, 432, 368, 752], [1008, 264, 392, 328, 712, 968, 296, 424, 360], [744, 1000, 280, 408, 344, 728, 984, 312, 440, 376], [760, 1016, 260, 388, 324, 708, 964, 292], [420, 356, 740, 996, 276, 404, 340, 724, 980, 308], [436, 372, 756, 1012, 268, 396, 332, 716, 972], [300, 428, 364, 748, 1004, 284, 412], [348, 732, 988, 316, 444, 380, 764, 1020], [258, 386, 322, 706, 962, 290, 418, 354, 738], [274, 402, 338, 722, 978, 306, 434, 370, 754, 1010], [394, 330, 714, 970, 298, 426, 362, 746], [992, 272, 400, 336, 720, 976, 304, 432, 368, 752], [282, 410, 346, 730, 986, 314, 442, 378, 762], [419, 355, 739, 995, 275, 403, 339], [723, 979, 307, 435, 371, 755, 1011, 267], [1005, 285, 413, 349, 733, 989, 317, 445, 381, 765, 1021, 259, 387, 323, 707, 963, 291], [297, 425, 361, 745, 1001, 281, 409, 345, 729, 985, 313, 441, 377, 761], [1017, 261, 389, 325, 709, 965, 293, 421, 357, 741, 997, 277, 405, 341], [397, 333, 717, 973, 301, 429, 365, 749], [725, 981, 309, 437, 373, 757, 1013], [992, 272, 400, 336, 720, 976, 304, 432, 368, 752], [992, 272, 400, 336, 720, 976, 304, 432, 368, 752], [992, 272, 400, 336, 720, 976, 304, 432, 368, 752], [992, 272, 400, 336, 720, 976, 304, 432, 368, 752], [992, 272, 400, 336, 720, 976, 304, 432, 368, 752], [992, 272, 400, 336, 720, 976, 304, 432, 368, 752], [992, 272, 400, 336, 720, 976, 304, 432, 368, 752], [992, 272, 400, 336, 720, 976, 304, 432, 368, 752], [992, 272, 400, 336, 720, 976, 304, 432, 368, 752], [992, 272, 400, 336, 720, 976, 304, 432, 368, 752], [1018, 262, 390, 326, 710, 966, 294, 422, 358, 742], [998, 278, 406, 342, 726], [982, 310, 438, 374, 758, 1014, 270, 398, 334, 718], [430, 366, 750, 1006, 286, 414, 350, 734], [446, 382, 766, 1022, 257, 385, 321, 705, 961, 289, 417], [353, 737, 993, 273, 401, 337, 721, 977, 305, 433], [369, 753, 1009, 265, 393, 329, 713, 969], [395, 331, 715, 971, 299, 427, 363, 747, 1003, 283, 411, 347, 731, 987, 315, 443, 379, 763, 1019, 263, 391, 327, 711, 967, 295, 423, 359, 743, 999, 279, 407, 343, 727, 983, 311, 439, 375, 759, 1015, 271, 399, 335, 719, 975, 303, 431, 367, 751, 1007, 287, 415, 351, 735, 991, 319, 447, 383, 767, 1023], [992, 272, 400, 336, 720, 976, 304, 432, 368, 752], [992, 272, 400, 336, 720, 976, 304, 432, 368, 752], [992, 272, 400, 336, 720, 976, 304, 432, 368, 752], [992, 272, 400, 336, 720, 976, 304, 432, 368, 752], [992, 272, 400, 336, 720, 976, 304, 432, 368, 752], [992, 272, 400, 336, 720, 976, 304, 432, 368, 752], [992, 272, 400, 336, 720, 976, 304, 432, 368, 752], [992, 272, 400, 336, 720, 976, 304, 432, 368, 752], [992, 272, 400, 336, 720, 976, 304, 432, 368, 752], [992, 272, 400, 336, 720, 976, 304, 432, 368, 752], [992, 272, 400, 336, 720, 976, 304, 432, 368, 752], [992, 272, 400, 336, 720, 976, 304, 432, 368, 752], [992, 272, 400, 336, 720, 976, 304, 432, 368, 752], [992, 272, 400, 336, 720, 976, 304, 432, 368, 752], [992, 272, 400, 336, 720, 976, 304, 432, 368, 752], [992, 272, 400, 336, 720, 976, 304, 432, 368, 752], [992, 272, 400, 336, 720, 976, 304, 432, 368, 752], [992, 272, 400, 336, 720, 976, 304, 432, 368, 752], [992, 272, 400, 336, 720, 976, 304, 432, 368, 752], [992, 272, 400, 336, 720, 976, 304, 432, 368, 752], [992, 272, 400, 336, 720, 976, 304, 432, 368, 752]]
def cpt : Nat → Nat → Cond → Cond
  | 0, _, c => c
  | k + 1, n, c => if n ≤ 1 then c else match c with
    | .and a b => cpt k (n / 2) (if n % 2 = 0 then a else b)
    | c => c
theorem cpt_b {args : Array Value} {s : State} : ∀ (k n : Nat) (c : Cond), c.before args s = true → (cpt k n c).before args s = true := fun k => by
  induction k with
  | zero => exact fun _ _ h => h
  | succ k ih =>
    intro n c h
    unfold cpt
    split
    · exact h
    · split
      · rename_i a b
        rw [Cond.before_and, Bool.and_eq_true] at h
        refine ih _ _ ?_
        split
        · exact h.1
        · exact h.2
      · exact h
theorem ls_ex : ∀ i ∈ List.range 59, cpt 20 ((zpa.getD i []).getD 0 1) narrow_1 = Cond.exactly (zst i) "java/lang/String" := by decide +kernel
theorem ls_co : ∀ i ∈ List.range 59, cpt 20 ((zpa.getD i []).getD 1 1) narrow_1 = Cond.eq (.field (zst i) "java/lang/String" "coder" "B") (.int 0) := by decide +kernel
theorem ls_ar : ∀ i ∈ List.range 59, cpt 20 ((zpa.getD i []).getD 2 1) narrow_1 = Cond.arrayOf (zvt (zst i)) .byte := by decide +kernel
theorem ls_le : ∀ i ∈ List.range 59, cpt 20 ((zpa.getD i []).getD 3 1) narrow_1 = Cond.eq (.length (zvt (zst i))) (.int (Int32.ofNat (zsl i))) := by decide +kernel
theorem ls_el : ∀ i ∈ List.range 59, ∀ j ∈ List.range (zsl i), cpt 20 ((zpa.getD i []).getD (4 + j) 1) narrow_1 = Cond.eq (.elem (zvt (zst i)) (.int (Int32.ofNat j))) (.int (Int32.ofInt (zsc i j))) := by decide +kernel
theorem ls_sr : ∀ i ∈ List.range 59, Cond.stringRef ((zstr[i]?).getD ("", 0, "")).1 ((zstr[i]?).getD ("", 0, "")).2.1 ((zstr[i]?).getD ("", 0, "")).2.2 ∈ lw_tbl := by decide +kernel
theorem lc_cs : Cond.eq (.static "java/lang/String" "COMPACT_STRINGS" "Z") (.int (Int32.ofInt 1)) ∈ lw_fl := by decide +kernel
theorem lc_si : Cond.isRef (.static "jdk/internal/util/Preconditions" "SIOOBE_FORMATTER" "Ljava/util/function/BiFunction;") ∈ lw_fl := by decide +kernel
theorem lc_us : Cond.isRef (.static "java/lang/Throwable" "UNASSIGNED_STACK" "[Ljava/lang/StackTraceElement;") ∈ lw_fl := by decide +kernel
theorem lc_ss : Cond.isRef (.static "java/lang/Throwable" "SUPPRESSED_SENTINEL" "Ljava/util/List;") ∈ lw_fl := by decide +kernel
variable {s : State} {args : Array Value}
theorem va_eqr {t u : Term} {a : Nat} (h : (Cond.eq t u).before args s = true) (hu : u.eval args s none [] s = some (.ref a)) : t.eval args s none [] s = some (.ref a) := by
  cases hv : t.eval args s none [] s with
  | none => simp [Cond.before, Cond.holds, Cond.value, hv] at h
  | some w =>
    simp only [Cond.before, Cond.holds, Cond.value, hv, hu] at h
    cases w <;> simp_all
abbrev lA (s : State) : Nat → Prop := fun q => s.heap.size ≤ q
theorem lA_n (s : State) : ∀ a : Nat, a < s.heap.size → ¬ lA s a := fun a h => Nat.not_le.mpr h
theorem lw_str (hn : narrow_1.before args s = true) : ∃ ad : Nat → Nat × Nat, ∀ i, i < 59 → (zst i).eval args s none [] s = some (.ref (ad i).1) ∧ va_O "java/lang/String" (ad i).1 (lA s) s s.heap ∧ va_OF "java/lang/String" "coder" "B" (.int (Int32.ofInt 0)) (ad i).1 (lA s) s s.heap ∧ va_OF "java/lang/String" "value" "[B" (.ref (ad i).2) (ad i).1 (lA s) s s.heap ∧ va_T .byte (ad i).2 (zsl i) (fun j => .int (Int32.ofInt (zsc i j))) (lA s) s s.heap := by
  have h0 : ∀ i : Nat, ∃ q : Nat × Nat, i < 59 → (zst i).eval args s none [] s = some (.ref q.1) ∧ va_O "java/lang/String" q.1 (lA s) s s.heap ∧ va_OF "java/lang/String" "coder" "B" (.int (Int32.ofInt 0)) q.1 (lA s) s s.heap ∧ va_OF "java/lang/String" "value" "[B" (.ref q.2) q.1 (lA s) s s.heap ∧ va_T .byte q.2 (zsl i) (fun j => .int (Int32.ofInt (zsc i j))) (lA s) s s.heap := by
    intro i
    by_cases hi : i < 59
    · have hm := List.mem_range.mpr hi
      have hA := lA_n s
      have hb : zsl i < 2 ^ 31 := by
        have q : ∀ i ∈ List.range 59, zsl i < 2 ^ 31 := by decide +kernel
        exact q i hm
      obtain ⟨a, c, cA, kA, q1, q2, q3, q4, q5, q6, -⟩ := Cond.exactly_spec (args := args) (first := s) (o := none) (s := s) (idx := []) (t := zst i) (cls := "java/lang/String") (ls_ex i hm ▸ cpt_b 20 _ _ hn)
      obtain ⟨t, ht, hT⟩ := va_Tof (f := fun j => .int (Int32.ofInt (zsc i j))) (A := lA s) hb (ls_ar i hm ▸ cpt_b 20 _ _ hn) (va_eqt (ls_le i hm ▸ cpt_b 20 _ _ hn)) (fun j hj => va_eqt (ls_el i hm j (List.mem_range.mpr hj) ▸ cpt_b 20 _ _ hn)) hA
      exact ⟨(a, t), fun _ => ⟨q1, ⟨cA, q3, q5, by rw [q6]; exact q2, hA a (Array.getElem?_eq_some_iff.mp q3).1⟩, vk_OFof q1 (va_eqt (ls_co i hm ▸ cpt_b 20 _ _ hn)) hA, vk_OFof q1 ht hA, hT⟩⟩
    · exact ⟨(0, 0), fun h => absurd h hi⟩
  exact Classical.axiomOfChoice h0
/-- the words of the tables -/
theorem lw_all_b (hts : ∀ w ∈ lw_tbl, w.before args s = true) : ∀ w ∈ lw_all, w.before args s = true := fun w hw => hts w (List.mem_filter.mp hw).1
theorem ls_aI : Cond.arrayClass .int ∈ lw_tbl := by decide +kernel
theorem ls_aB : Cond.arrayClass .byte ∈ lw_tbl := by decide +kernel
theorem ls_aZ : Cond.arrayClass .boolean ∈ lw_tbl := by decide +kernel
theorem ls_aJ : Cond.arrayClass .long ∈ lw_tbl := by decide +kernel
theorem ls_oS : Cond.arrayOver (.object "CinemaChain$State") ∈ lw_tbl := by decide +kernel
theorem ls_oA : Cond.arrayOver (.array .int) ∈ lw_tbl := by decide +kernel
end ZST

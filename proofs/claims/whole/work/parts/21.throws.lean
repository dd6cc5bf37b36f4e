/-! words of throws -/
section ZX
theorem zj1 {w : Cond} (n : Nat) (h : tables_1_1[n]? = some w) (hg : znest w = true) : w ∈ lw_nest := by
  refine List.mem_filter.mpr ⟨List.mem_append.mpr (Or.inr ?_), hg⟩
  have := List.mem_of_getElem? h
  simp only [tables_1, List.mem_append]
  simp only [this, true_or, or_true]
theorem zj2 {w : Cond} (n : Nat) (h : tables_1_2[n]? = some w) (hg : znest w = true) : w ∈ lw_nest := by
  refine List.mem_filter.mpr ⟨List.mem_append.mpr (Or.inr ?_), hg⟩
  have := List.mem_of_getElem? h
  simp only [tables_1, List.mem_append]
  simp only [this, true_or, or_true]
theorem zj3 {w : Cond} (n : Nat) (h : tables_1_3[n]? = some w) (hg : znest w = true) : w ∈ lw_nest := by
  refine List.mem_filter.mpr ⟨List.mem_append.mpr (Or.inr ?_), hg⟩
  have := List.mem_of_getElem? h
  simp only [tables_1, List.mem_append]
  simp only [this, true_or, or_true]
theorem zj4 {w : Cond} (n : Nat) (h : tables_1_4[n]? = some w) (hg : znest w = true) : w ∈ lw_nest := by
  refine List.mem_filter.mpr ⟨List.mem_append.mpr (Or.inr ?_), hg⟩
  have := List.mem_of_getElem? h
  simp only [tables_1, List.mem_append]
  simp only [this, true_or, or_true]
theorem zj5 {w : Cond} (n : Nat) (h : tables_1_5[n]? = some w) (hg : znest w = true) : w ∈ lw_nest := by
  refine List.mem_filter.mpr ⟨List.mem_append.mpr (Or.inr ?_), hg⟩
  have := List.mem_of_getElem? h
  simp only [tables_1, List.mem_append]
  simp only [this, true_or, or_true]
theorem zj6 {w : Cond} (n : Nat) (h : tables_1_6[n]? = some w) (hg : znest w = true) : w ∈ lw_nest := by
  refine List.mem_filter.mpr ⟨List.mem_append.mpr (Or.inr ?_), hg⟩
  have := List.mem_of_getElem? h
  simp only [tables_1, List.mem_append]
  simp only [this, true_or, or_true]
theorem zj7 {w : Cond} (n : Nat) (h : tables_1_7[n]? = some w) (hg : znest w = true) : w ∈ lw_nest := by
  refine List.mem_filter.mpr ⟨List.mem_append.mpr (Or.inr ?_), hg⟩
  have := List.mem_of_getElem? h
  simp only [tables_1, List.mem_append]
  simp only [this, true_or, or_true]
theorem zj8 {w : Cond} (n : Nat) (h : tables_1_8[n]? = some w) (hg : znest w = true) : w ∈ lw_nest := by
  refine List.mem_filter.mpr ⟨List.mem_append.mpr (Or.inr ?_), hg⟩
  have := List.mem_of_getElem? h
  simp only [tables_1, List.mem_append]
  simp only [this, true_or, or_true]
theorem zj9 {w : Cond} (n : Nat) (h : tables_1_9[n]? = some w) (hg : znest w = true) : w ∈ lw_nest := by
  refine List.mem_filter.mpr ⟨List.mem_append.mpr (Or.inr ?_), hg⟩
  have := List.mem_of_getElem? h
  simp only [tables_1, List.mem_append]
  simp only [this, true_or, or_true]
theorem zj10 {w : Cond} (n : Nat) (h : tables_1_10[n]? = some w) (hg : znest w = true) : w ∈ lw_nest := by
  refine List.mem_filter.mpr ⟨List.mem_append.mpr (Or.inr ?_), hg⟩
  have := List.mem_of_getElem? h
  simp only [tables_1, List.mem_append]
  simp only [this, true_or, or_true]
theorem zatN : ∀ w ∈ zOA RX11 180 "java/util/NoSuchElementException" 13 prog_37_method_4_code ["java/lang/RuntimeException", "java/lang/Exception"], vx_no w = true → w ∈ lw_all ∨ w ∈ lw_nest := List.forall_mem_cons.mpr ⟨fun _ => Or.inl (zi1 17 rfl rfl), List.forall_mem_cons.mpr ⟨fun _ => Or.inl (zi4 125 rfl rfl), List.forall_mem_cons.mpr ⟨fun _ => Or.inl (zi4 134 rfl rfl), List.forall_mem_cons.mpr ⟨fun _ => Or.inl (zi4 137 rfl rfl), List.forall_mem_cons.mpr ⟨fun _ => Or.inl (zi4 140 rfl rfl), List.forall_mem_cons.mpr ⟨fun _ => Or.inl (zi4 142 rfl rfl), List.forall_mem_cons.mpr ⟨fun _ => Or.inl (zi4 126 rfl rfl), List.forall_mem_cons.mpr ⟨fun _ => Or.inl (zi4 127 rfl rfl), List.forall_mem_cons.mpr ⟨fun _ => Or.inl (zi1 36 rfl rfl), List.forall_mem_cons.mpr ⟨fun _ => Or.inl (zi1 37 rfl rfl), List.forall_mem_cons.mpr ⟨fun _ => Or.inl (zi4 128 rfl rfl), List.forall_mem_cons.mpr ⟨fun _ => Or.inl (zi4 133 rfl rfl), List.forall_mem_cons.mpr ⟨fun _ => Or.inl (zi4 138 rfl rfl), List.forall_mem_cons.mpr ⟨fun _ => Or.inl (zi4 158 rfl rfl), List.forall_mem_cons.mpr ⟨fun _ => Or.inl (zi4 115 rfl rfl), List.forall_mem_cons.mpr ⟨fun _ => Or.inl (zi4 159 rfl rfl), List.forall_mem_cons.mpr ⟨fun _ => Or.inl (zi4 117 rfl rfl), List.forall_mem_cons.mpr ⟨fun _ => Or.inl (zi4 160 rfl rfl), List.forall_mem_cons.mpr ⟨fun _ => Or.inl (zi4 119 rfl rfl), List.forall_mem_cons.mpr ⟨fun _ => Or.inl (zi4 129 rfl rfl), List.forall_mem_cons.mpr ⟨fun h => absurd h (by decide), List.forall_mem_cons.mpr ⟨fun _ => Or.inl (zi4 131 rfl rfl), List.forall_mem_cons.mpr ⟨fun h => absurd h (by decide), List.forall_mem_cons.mpr ⟨fun _ => Or.inl (zi4 121 rfl rfl), List.forall_mem_cons.mpr ⟨fun _ => Or.inl (zi4 154 rfl rfl), List.forall_mem_cons.mpr ⟨fun _ => Or.inl (zi4 155 rfl rfl), List.forall_mem_cons.mpr ⟨fun _ => Or.inl (zi4 157 rfl rfl), List.forall_mem_cons.mpr ⟨fun _ => Or.inl (zi4 121 rfl rfl), List.forall_mem_cons.mpr ⟨fun _ => Or.inl (zi5 88 rfl rfl), List.forall_mem_cons.mpr ⟨fun _ => Or.inl (zi5 89 rfl rfl), List.forall_mem_cons.mpr ⟨fun _ => Or.inl (zi5 90 rfl rfl), List.forall_mem_cons.mpr ⟨fun _ => Or.inl (zi4 148 rfl rfl), List.forall_mem_cons.mpr ⟨fun _ => Or.inr (zj4 107 rfl rfl), List.forall_mem_cons.mpr ⟨fun _ => Or.inl (zi4 148 rfl rfl), List.forall_mem_cons.mpr ⟨fun _ => Or.inl (zi4 149 rfl rfl), List.forall_mem_cons.mpr ⟨fun _ => Or.inl (zi4 150 rfl rfl), List.forall_mem_cons.mpr ⟨fun _ => Or.inl (zi4 151 rfl rfl), List.forall_mem_cons.mpr ⟨fun _ => Or.inr (zj4 109 rfl rfl), List.forall_mem_cons.mpr ⟨fun _ => Or.inl (zi4 151 rfl rfl), List.forall_mem_cons.mpr ⟨fun _ => Or.inl (zi4 152 rfl rfl), List.forall_mem_cons.mpr ⟨fun _ => Or.inl (zi4 153 rfl rfl), List.forall_mem_cons.mpr ⟨fun _ => Or.inl (zi4 154 rfl rfl), List.forall_mem_cons.mpr ⟨fun _ => Or.inr (zj4 111 rfl rfl), List.forall_mem_cons.mpr ⟨fun _ => Or.inl (zi5 87 rfl rfl), List.forall_mem_cons.mpr ⟨fun _ => Or.inl (zi5 78 rfl rfl), List.forall_mem_cons.mpr ⟨fun _ => Or.inr (zj5 79 rfl rfl), List.forall_mem_cons.mpr ⟨fun _ => Or.inl (zi5 80 rfl rfl), List.forall_mem_cons.mpr ⟨fun _ => Or.inl (zi4 136 rfl rfl), List.forall_mem_cons.mpr ⟨fun _ => Or.inl (zi5 81 rfl rfl), List.forall_mem_cons.mpr ⟨fun _ => Or.inl (zi5 82 rfl rfl), List.forall_mem_cons.mpr ⟨fun _ => Or.inl (zi5 83 rfl rfl), List.forall_mem_cons.mpr ⟨fun _ => Or.inl (zi5 84 rfl rfl), List.forall_mem_cons.mpr ⟨fun h => absurd h (by decide), List.forall_mem_cons.mpr ⟨fun h => absurd h (by decide), List.forall_mem_cons.mpr ⟨fun _ => Or.inl (zi4 124 rfl rfl), List.forall_mem_cons.mpr ⟨fun _ => Or.inl (zi4 123 rfl rfl), List.forall_mem_cons.mpr ⟨fun _ => Or.inl (zi5 85 rfl rfl), fun _ h => nomatch h⟩⟩⟩⟩⟩⟩⟩⟩⟩⟩⟩⟩⟩⟩⟩⟩⟩⟩⟩⟩⟩⟩⟩⟩⟩⟩⟩⟩⟩⟩⟩⟩⟩⟩⟩⟩⟩⟩⟩⟩⟩⟩⟩⟩⟩⟩⟩⟩⟩⟩⟩⟩⟩⟩⟩⟩⟩
theorem zrxN0 : decode prog_37_method_4_code 0 = .ok (.aload_n 0, 1) := by decide +kernel
theorem zrxN1 : decode prog_37_method_4_code 1 = .ok (.aload_n 1, 1) := by decide +kernel
theorem zrxN2 : decode prog_37_method_4_code 2 = .ok (.invokespecial 13, 3) := by decide +kernel
theorem zrxN5 : decode prog_37_method_4_code 5 = .ok (.return_, 1) := by decide +kernel
theorem zckN : Cond.classLink RX11 176 "java/util/NoSuchElementException" ∈ lw_all := zi5 77 rfl rfl
theorem zinN : Cond.initialized "java/util/NoSuchElementException" ∈ lw_all := zi1 25 rfl rfl
theorem zatA : ∀ w ∈ zOA RX11 151 "java/lang/IllegalArgumentException" 7 prog_23_method_2_code ["java/lang/RuntimeException", "java/lang/Exception"], vx_no w = true → w ∈ lw_all ∨ w ∈ lw_nest := List.forall_mem_cons.mpr ⟨fun _ => Or.inl (zi1 17 rfl rfl), List.forall_mem_cons.mpr ⟨fun _ => Or.inl (zi4 125 rfl rfl), List.forall_mem_cons.mpr ⟨fun _ => Or.inl (zi4 134 rfl rfl), List.forall_mem_cons.mpr ⟨fun _ => Or.inl (zi4 137 rfl rfl), List.forall_mem_cons.mpr ⟨fun _ => Or.inl (zi4 140 rfl rfl), List.forall_mem_cons.mpr ⟨fun _ => Or.inl (zi4 142 rfl rfl), List.forall_mem_cons.mpr ⟨fun _ => Or.inl (zi4 126 rfl rfl), List.forall_mem_cons.mpr ⟨fun _ => Or.inl (zi4 127 rfl rfl), List.forall_mem_cons.mpr ⟨fun _ => Or.inl (zi1 36 rfl rfl), List.forall_mem_cons.mpr ⟨fun _ => Or.inl (zi1 37 rfl rfl), List.forall_mem_cons.mpr ⟨fun _ => Or.inl (zi4 128 rfl rfl), List.forall_mem_cons.mpr ⟨fun _ => Or.inl (zi4 133 rfl rfl), List.forall_mem_cons.mpr ⟨fun _ => Or.inl (zi4 138 rfl rfl), List.forall_mem_cons.mpr ⟨fun _ => Or.inl (zi4 158 rfl rfl), List.forall_mem_cons.mpr ⟨fun _ => Or.inl (zi4 115 rfl rfl), List.forall_mem_cons.mpr ⟨fun _ => Or.inl (zi4 159 rfl rfl), List.forall_mem_cons.mpr ⟨fun _ => Or.inl (zi4 117 rfl rfl), List.forall_mem_cons.mpr ⟨fun _ => Or.inl (zi4 160 rfl rfl), List.forall_mem_cons.mpr ⟨fun _ => Or.inl (zi4 119 rfl rfl), List.forall_mem_cons.mpr ⟨fun _ => Or.inl (zi4 129 rfl rfl), List.forall_mem_cons.mpr ⟨fun h => absurd h (by decide), List.forall_mem_cons.mpr ⟨fun _ => Or.inl (zi4 131 rfl rfl), List.forall_mem_cons.mpr ⟨fun h => absurd h (by decide), List.forall_mem_cons.mpr ⟨fun _ => Or.inl (zi4 121 rfl rfl), List.forall_mem_cons.mpr ⟨fun _ => Or.inl (zi4 154 rfl rfl), List.forall_mem_cons.mpr ⟨fun _ => Or.inl (zi4 155 rfl rfl), List.forall_mem_cons.mpr ⟨fun _ => Or.inl (zi4 157 rfl rfl), List.forall_mem_cons.mpr ⟨fun _ => Or.inl (zi4 121 rfl rfl), List.forall_mem_cons.mpr ⟨fun _ => Or.inl (zi4 145 rfl rfl), List.forall_mem_cons.mpr ⟨fun _ => Or.inl (zi4 146 rfl rfl), List.forall_mem_cons.mpr ⟨fun _ => Or.inl (zi4 147 rfl rfl), List.forall_mem_cons.mpr ⟨fun _ => Or.inl (zi4 148 rfl rfl), List.forall_mem_cons.mpr ⟨fun _ => Or.inr (zj4 107 rfl rfl), List.forall_mem_cons.mpr ⟨fun _ => Or.inl (zi4 148 rfl rfl), List.forall_mem_cons.mpr ⟨fun _ => Or.inl (zi4 149 rfl rfl), List.forall_mem_cons.mpr ⟨fun _ => Or.inl (zi4 150 rfl rfl), List.forall_mem_cons.mpr ⟨fun _ => Or.inl (zi4 151 rfl rfl), List.forall_mem_cons.mpr ⟨fun _ => Or.inr (zj4 109 rfl rfl), List.forall_mem_cons.mpr ⟨fun _ => Or.inl (zi4 151 rfl rfl), List.forall_mem_cons.mpr ⟨fun _ => Or.inl (zi4 152 rfl rfl), List.forall_mem_cons.mpr ⟨fun _ => Or.inl (zi4 153 rfl rfl), List.forall_mem_cons.mpr ⟨fun _ => Or.inl (zi4 154 rfl rfl), List.forall_mem_cons.mpr ⟨fun _ => Or.inr (zj4 111 rfl rfl), List.forall_mem_cons.mpr ⟨fun _ => Or.inl (zi4 144 rfl rfl), List.forall_mem_cons.mpr ⟨fun _ => Or.inl (zi4 104 rfl rfl), List.forall_mem_cons.mpr ⟨fun _ => Or.inr (zj4 105 rfl rfl), List.forall_mem_cons.mpr ⟨fun _ => Or.inl (zi4 112 rfl rfl), List.forall_mem_cons.mpr ⟨fun _ => Or.inl (zi4 113 rfl rfl), List.forall_mem_cons.mpr ⟨fun _ => Or.inl (zi4 114 rfl rfl), List.forall_mem_cons.mpr ⟨fun _ => Or.inl (zi4 116 rfl rfl), List.forall_mem_cons.mpr ⟨fun _ => Or.inl (zi4 118 rfl rfl), List.forall_mem_cons.mpr ⟨fun _ => Or.inl (zi4 120 rfl rfl), List.forall_mem_cons.mpr ⟨fun h => absurd h (by decide), List.forall_mem_cons.mpr ⟨fun h => absurd h (by decide), List.forall_mem_cons.mpr ⟨fun _ => Or.inl (zi4 124 rfl rfl), List.forall_mem_cons.mpr ⟨fun _ => Or.inl (zi4 123 rfl rfl), List.forall_mem_cons.mpr ⟨fun _ => Or.inl (zi4 122 rfl rfl), fun _ h => nomatch h⟩⟩⟩⟩⟩⟩⟩⟩⟩⟩⟩⟩⟩⟩⟩⟩⟩⟩⟩⟩⟩⟩⟩⟩⟩⟩⟩⟩⟩⟩⟩⟩⟩⟩⟩⟩⟩⟩⟩⟩⟩⟩⟩⟩⟩⟩⟩⟩⟩⟩⟩⟩⟩⟩⟩⟩⟩
theorem zrxA0 : decode prog_23_method_2_code 0 = .ok (.aload_n 0, 1) := by decide +kernel
theorem zrxA1 : decode prog_23_method_2_code 1 = .ok (.aload_n 1, 1) := by decide +kernel
theorem zrxA2 : decode prog_23_method_2_code 2 = .ok (.invokespecial 7, 3) := by decide +kernel
theorem zrxA5 : decode prog_23_method_2_code 5 = .ok (.return_, 1) := by decide +kernel
theorem zckA : Cond.classLink RX11 147 "java/lang/IllegalArgumentException" ∈ lw_all := zi4 103 rfl rfl
theorem zinA : Cond.initialized "java/lang/IllegalArgumentException" ∈ lw_all := zi1 20 rfl rfl
end ZX

/-! words of the tables, by their places -/
section ZW
theorem zi1 {w : Cond} (n : Nat) (h : tables_1_1[n]? = some w) (hg : goodWord w = true) : w ∈ lw_all := by
  refine List.mem_filter.mpr ⟨List.mem_append.mpr (Or.inr (List.mem_append.mpr (Or.inr ?_))), hg⟩
  have := List.mem_of_getElem? h
  simp only [tables_1, List.mem_append]
  simp only [this, true_or, or_true]
theorem zi2 {w : Cond} (n : Nat) (h : tables_1_2[n]? = some w) (hg : goodWord w = true) : w ∈ lw_all := by
  refine List.mem_filter.mpr ⟨List.mem_append.mpr (Or.inr (List.mem_append.mpr (Or.inr ?_))), hg⟩
  have := List.mem_of_getElem? h
  simp only [tables_1, List.mem_append]
  simp only [this, true_or, or_true]
theorem zi3 {w : Cond} (n : Nat) (h : tables_1_3[n]? = some w) (hg : goodWord w = true) : w ∈ lw_all := by
  refine List.mem_filter.mpr ⟨List.mem_append.mpr (Or.inr (List.mem_append.mpr (Or.inr ?_))), hg⟩
  have := List.mem_of_getElem? h
  simp only [tables_1, List.mem_append]
  simp only [this, true_or, or_true]
theorem zi4 {w : Cond} (n : Nat) (h : tables_1_4[n]? = some w) (hg : goodWord w = true) : w ∈ lw_all := by
  refine List.mem_filter.mpr ⟨List.mem_append.mpr (Or.inr (List.mem_append.mpr (Or.inr ?_))), hg⟩
  have := List.mem_of_getElem? h
  simp only [tables_1, List.mem_append]
  simp only [this, true_or, or_true]
theorem zi5 {w : Cond} (n : Nat) (h : tables_1_5[n]? = some w) (hg : goodWord w = true) : w ∈ lw_all := by
  refine List.mem_filter.mpr ⟨List.mem_append.mpr (Or.inr (List.mem_append.mpr (Or.inr ?_))), hg⟩
  have := List.mem_of_getElem? h
  simp only [tables_1, List.mem_append]
  simp only [this, true_or, or_true]
theorem zi6 {w : Cond} (n : Nat) (h : tables_1_6[n]? = some w) (hg : goodWord w = true) : w ∈ lw_all := by
  refine List.mem_filter.mpr ⟨List.mem_append.mpr (Or.inr (List.mem_append.mpr (Or.inr ?_))), hg⟩
  have := List.mem_of_getElem? h
  simp only [tables_1, List.mem_append]
  simp only [this, true_or, or_true]
theorem zi7 {w : Cond} (n : Nat) (h : tables_1_7[n]? = some w) (hg : goodWord w = true) : w ∈ lw_all := by
  refine List.mem_filter.mpr ⟨List.mem_append.mpr (Or.inr (List.mem_append.mpr (Or.inr ?_))), hg⟩
  have := List.mem_of_getElem? h
  simp only [tables_1, List.mem_append]
  simp only [this, true_or, or_true]
theorem zi8 {w : Cond} (n : Nat) (h : tables_1_8[n]? = some w) (hg : goodWord w = true) : w ∈ lw_all := by
  refine List.mem_filter.mpr ⟨List.mem_append.mpr (Or.inr (List.mem_append.mpr (Or.inr ?_))), hg⟩
  have := List.mem_of_getElem? h
  simp only [tables_1, List.mem_append]
  simp only [this, true_or, or_true]
theorem zi9 {w : Cond} (n : Nat) (h : tables_1_9[n]? = some w) (hg : goodWord w = true) : w ∈ lw_all := by
  refine List.mem_filter.mpr ⟨List.mem_append.mpr (Or.inr (List.mem_append.mpr (Or.inr ?_))), hg⟩
  have := List.mem_of_getElem? h
  simp only [tables_1, List.mem_append]
  simp only [this, true_or, or_true]
theorem zi10 {w : Cond} (n : Nat) (h : tables_1_10[n]? = some w) (hg : goodWord w = true) : w ∈ lw_all := by
  refine List.mem_filter.mpr ⟨List.mem_append.mpr (Or.inr (List.mem_append.mpr (Or.inr ?_))), hg⟩
  have := List.mem_of_getElem? h
  simp only [tables_1, List.mem_append]
  simp only [this, true_or, or_true]
theorem zs1 {q : MethodName × Nat} (n : Nat) (h : lw_privs_1[n]? = some q) (hg : goodWord (Cond.selects q.1.cls q.1 q.1) = true) : Cond.selects q.1.cls q.1 q.1 ∈ lw_all := by
  refine List.mem_filter.mpr ⟨List.mem_append.mpr (Or.inr (List.mem_append.mpr (Or.inl (List.mem_map.mpr ⟨q, ?_, rfl⟩)))), hg⟩
  have := List.mem_of_getElem? h
  simp only [lw_privs, List.mem_append]
  simp only [this, true_or, or_true]
theorem zs2 {q : MethodName × Nat} (n : Nat) (h : lw_privs_2[n]? = some q) (hg : goodWord (Cond.selects q.1.cls q.1 q.1) = true) : Cond.selects q.1.cls q.1 q.1 ∈ lw_all := by
  refine List.mem_filter.mpr ⟨List.mem_append.mpr (Or.inr (List.mem_append.mpr (Or.inl (List.mem_map.mpr ⟨q, ?_, rfl⟩)))), hg⟩
  have := List.mem_of_getElem? h
  simp only [lw_privs, List.mem_append]
  simp only [this, true_or, or_true]
theorem zs3 {q : MethodName × Nat} (n : Nat) (h : lw_privs_3[n]? = some q) (hg : goodWord (Cond.selects q.1.cls q.1 q.1) = true) : Cond.selects q.1.cls q.1 q.1 ∈ lw_all := by
  refine List.mem_filter.mpr ⟨List.mem_append.mpr (Or.inr (List.mem_append.mpr (Or.inl (List.mem_map.mpr ⟨q, ?_, rfl⟩)))), hg⟩
  have := List.mem_of_getElem? h
  simp only [lw_privs, List.mem_append]
  simp only [this, true_or, or_true]
theorem zs4 {q : MethodName × Nat} (n : Nat) (h : lw_privs_4[n]? = some q) (hg : goodWord (Cond.selects q.1.cls q.1 q.1) = true) : Cond.selects q.1.cls q.1 q.1 ∈ lw_all := by
  refine List.mem_filter.mpr ⟨List.mem_append.mpr (Or.inr (List.mem_append.mpr (Or.inl (List.mem_map.mpr ⟨q, ?_, rfl⟩)))), hg⟩
  have := List.mem_of_getElem? h
  simp only [lw_privs, List.mem_append]
  simp only [this, true_or, or_true]
theorem zs5 {q : MethodName × Nat} (n : Nat) (h : lw_privs_5[n]? = some q) (hg : goodWord (Cond.selects q.1.cls q.1 q.1) = true) : Cond.selects q.1.cls q.1 q.1 ∈ lw_all := by
  refine List.mem_filter.mpr ⟨List.mem_append.mpr (Or.inr (List.mem_append.mpr (Or.inl (List.mem_map.mpr ⟨q, ?_, rfl⟩)))), hg⟩
  have := List.mem_of_getElem? h
  simp only [lw_privs, List.mem_append]
  simp only [this, true_or, or_true]
theorem zs6 {q : MethodName × Nat} (n : Nat) (h : lw_privs_6[n]? = some q) (hg : goodWord (Cond.selects q.1.cls q.1 q.1) = true) : Cond.selects q.1.cls q.1 q.1 ∈ lw_all := by
  refine List.mem_filter.mpr ⟨List.mem_append.mpr (Or.inr (List.mem_append.mpr (Or.inl (List.mem_map.mpr ⟨q, ?_, rfl⟩)))), hg⟩
  have := List.mem_of_getElem? h
  simp only [lw_privs, List.mem_append]
  simp only [this, true_or, or_true]
theorem zs7 {q : MethodName × Nat} (n : Nat) (h : lw_privs_7[n]? = some q) (hg : goodWord (Cond.selects q.1.cls q.1 q.1) = true) : Cond.selects q.1.cls q.1 q.1 ∈ lw_all := by
  refine List.mem_filter.mpr ⟨List.mem_append.mpr (Or.inr (List.mem_append.mpr (Or.inl (List.mem_map.mpr ⟨q, ?_, rfl⟩)))), hg⟩
  have := List.mem_of_getElem? h
  simp only [lw_privs, List.mem_append]
  simp only [this, true_or, or_true]
theorem zs8 {q : MethodName × Nat} (n : Nat) (h : lw_privs_8[n]? = some q) (hg : goodWord (Cond.selects q.1.cls q.1 q.1) = true) : Cond.selects q.1.cls q.1 q.1 ∈ lw_all := by
  refine List.mem_filter.mpr ⟨List.mem_append.mpr (Or.inr (List.mem_append.mpr (Or.inl (List.mem_map.mpr ⟨q, ?_, rfl⟩)))), hg⟩
  have := List.mem_of_getElem? h
  simp only [lw_privs, List.mem_append]
  simp only [this, true_or, or_true]
theorem zs9 {q : MethodName × Nat} (n : Nat) (h : lw_privs_9[n]? = some q) (hg : goodWord (Cond.selects q.1.cls q.1 q.1) = true) : Cond.selects q.1.cls q.1 q.1 ∈ lw_all := by
  refine List.mem_filter.mpr ⟨List.mem_append.mpr (Or.inr (List.mem_append.mpr (Or.inl (List.mem_map.mpr ⟨q, ?_, rfl⟩)))), hg⟩
  have := List.mem_of_getElem? h
  simp only [lw_privs, List.mem_append]
  simp only [this, true_or, or_true]
abbrev mX1_init : zMeth := (yX1_init, cX1_init, 1, none)
theorem wX1_init : Cond.code yX1_init cX1_init 1 none ∈ lw_all := zi1 75 rfl rfl
theorem iX1_init : Cond.instanceMethod yX1_init ∈ lw_all := zi1 74 rfl rfl
abbrev mX1_clear : zMeth := (yX1_clear, cX1_clear, 1, none)
theorem wX1_clear : Cond.code yX1_clear cX1_clear 1 none ∈ lw_all := zi4 176 rfl rfl
theorem iX1_clear : Cond.instanceMethod yX1_clear ∈ lw_all := zi4 174 rfl rfl
theorem eX1_clear : Cond.selects RX1 yX1_clear yX1_clear ∈ lw_all := zi4 175 rfl rfl
abbrev mX1_copyFrom : zMeth := (yX1_copyFrom, cX1_copyFrom, 2, none)
theorem wX1_copyFrom : Cond.code yX1_copyFrom cX1_copyFrom 2 none ∈ lw_all := zi5 58 rfl rfl
theorem iX1_copyFrom : Cond.instanceMethod yX1_copyFrom ∈ lw_all := zi5 56 rfl rfl
theorem eX1_copyFrom : Cond.selects RX1 yX1_copyFrom yX1_copyFrom ∈ lw_all := zi5 57 rfl rfl
abbrev mX1_capacityOf : zMeth := (yX1_capacityOf, cX1_capacityOf, 2, (some .int))
theorem wX1_capacityOf : Cond.code yX1_capacityOf cX1_capacityOf 2 (some .int) ∈ lw_all := zi3 47 rfl rfl
theorem iX1_capacityOf : Cond.instanceMethod yX1_capacityOf ∈ lw_all := zi3 45 rfl rfl
theorem eX1_capacityOf : Cond.selects RX1 yX1_capacityOf yX1_capacityOf ∈ lw_all := zi3 46 rfl rfl
abbrev mX1_priceAt : zMeth := (yX1_priceAt, cX1_priceAt, 2, (some .int))
theorem wX1_priceAt : Cond.code yX1_priceAt cX1_priceAt 2 (some .int) ∈ lw_all := zi3 168 rfl rfl
theorem iX1_priceAt : Cond.instanceMethod yX1_priceAt ∈ lw_all := zi3 166 rfl rfl
theorem eX1_priceAt : Cond.selects RX1 yX1_priceAt yX1_priceAt ∈ lw_all := zi3 167 rfl rfl
abbrev mX2_init : zMeth := (yX2_init, cX2_init, 2, none)
theorem wX2_init : Cond.code yX2_init cX2_init 2 none ∈ lw_all := zi2 172 rfl rfl
theorem iX2_init : Cond.instanceMethod yX2_init ∈ lw_all := zi2 171 rfl rfl
abbrev mX2_read : zMeth := (yX2_read, cX2_read, 3, none)
theorem wX2_read : Cond.code yX2_read cX2_read 3 none ∈ lw_all := zi4 172 rfl rfl
theorem iX2_read : Cond.instanceMethod yX2_read ∈ lw_all := zi4 170 rfl rfl
theorem eX2_read : Cond.selects RX2 yX2_read yX2_read ∈ lw_all := zi4 171 rfl rfl
abbrev mX2_readClause : zMeth := (yX2_readClause, cX2_readClause, 1, none)
theorem wX2_readClause : Cond.code yX2_readClause cX2_readClause 1 none ∈ lw_all := zi4 191 rfl rfl
theorem iX2_readClause : Cond.instanceMethod yX2_readClause ∈ lw_all := zi4 190 rfl rfl
theorem eX2_readClause : Cond.selects RX2 yX2_readClause yX2_readClause ∈ lw_all := zs2 (q := (yX2_readClause, _)) 8 rfl rfl
abbrev mX2_readHouse : zMeth := (yX2_readHouse, cX2_readHouse, 2, none)
theorem wX2_readHouse : Cond.code yX2_readHouse cX2_readHouse 2 none ∈ lw_all := zi4 229 rfl rfl
theorem iX2_readHouse : Cond.instanceMethod yX2_readHouse ∈ lw_all := zi4 228 rfl rfl
theorem eX2_readHouse : Cond.selects RX2 yX2_readHouse yX2_readHouse ∈ lw_all := zs2 (q := (yX2_readHouse, _)) 9 rfl rfl
abbrev mX2_readScreen : zMeth := (yX2_readScreen, cX2_readScreen, 3, none)
theorem wX2_readScreen : Cond.code yX2_readScreen cX2_readScreen 3 none ∈ lw_all := zi5 12 rfl rfl
theorem iX2_readScreen : Cond.instanceMethod yX2_readScreen ∈ lw_all := zi5 11 rfl rfl
theorem eX2_readScreen : Cond.selects RX2 yX2_readScreen yX2_readScreen ∈ lw_all := zs2 (q := (yX2_readScreen, _)) 10 rfl rfl
abbrev mX2_refuseFullHouse : zMeth := (yX2_refuseFullHouse, cX2_refuseFullHouse, 1, none)
theorem wX2_refuseFullHouse : Cond.code yX2_refuseFullHouse cX2_refuseFullHouse 1 none ∈ lw_all := zi5 16 rfl rfl
theorem iX2_refuseFullHouse : Cond.instanceMethod yX2_refuseFullHouse ∈ lw_all := zi5 15 rfl rfl
theorem eX2_refuseFullHouse : Cond.selects RX2 yX2_refuseFullHouse yX2_refuseFullHouse ∈ lw_all := zs2 (q := (yX2_refuseFullHouse, _)) 11 rfl rfl
abbrev mX2_readFilm : zMeth := (yX2_readFilm, cX2_readFilm, 2, none)
theorem wX2_readFilm : Cond.code yX2_readFilm cX2_readFilm 2 none ∈ lw_all := zi5 21 rfl rfl
theorem iX2_readFilm : Cond.instanceMethod yX2_readFilm ∈ lw_all := zi5 20 rfl rfl
theorem eX2_readFilm : Cond.selects RX2 yX2_readFilm yX2_readFilm ∈ lw_all := zs2 (q := (yX2_readFilm, _)) 12 rfl rfl
abbrev mX2_readTerms : zMeth := (yX2_readTerms, cX2_readTerms, 3, none)
theorem wX2_readTerms : Cond.code yX2_readTerms cX2_readTerms 3 none ∈ lw_all := zi5 25 rfl rfl
theorem iX2_readTerms : Cond.instanceMethod yX2_readTerms ∈ lw_all := zi5 24 rfl rfl
theorem eX2_readTerms : Cond.selects RX2 yX2_readTerms yX2_readTerms ∈ lw_all := zs2 (q := (yX2_readTerms, _)) 13 rfl rfl
abbrev mX2_readPrints : zMeth := (yX2_readPrints, cX2_readPrints, 4, none)
theorem wX2_readPrints : Cond.code yX2_readPrints cX2_readPrints 4 none ∈ lw_all := zi5 35 rfl rfl
theorem iX2_readPrints : Cond.instanceMethod yX2_readPrints ∈ lw_all := zi5 34 rfl rfl
theorem eX2_readPrints : Cond.selects RX2 yX2_readPrints yX2_readPrints ∈ lw_all := zs2 (q := (yX2_readPrints, _)) 14 rfl rfl
abbrev mX2_readFee : zMeth := (yX2_readFee, cX2_readFee, 1, none)
theorem wX2_readFee : Cond.code yX2_readFee cX2_readFee 1 none ∈ lw_all := zi5 46 rfl rfl
theorem iX2_readFee : Cond.instanceMethod yX2_readFee ∈ lw_all := zi5 45 rfl rfl
theorem eX2_readFee : Cond.selects RX2 yX2_readFee yX2_readFee ∈ lw_all := zs2 (q := (yX2_readFee, _)) 15 rfl rfl
abbrev mX3_init : zMeth := (yX3_init, cX3_init, 4, none)
theorem wX3_init : Cond.code yX3_init cX3_init 4 none ∈ lw_all := zi2 88 rfl rfl
theorem iX3_init : Cond.instanceMethod yX3_init ∈ lw_all := zi2 87 rfl rfl
abbrev mX3_closeWeek : zMeth := (yX3_closeWeek, cX3_closeWeek, 2, (some .int))
theorem wX3_closeWeek : Cond.code yX3_closeWeek cX3_closeWeek 2 (some .int) ∈ lw_all := zi3 156 rfl rfl
theorem iX3_closeWeek : Cond.instanceMethod yX3_closeWeek ∈ lw_all := zi3 154 rfl rfl
theorem eX3_closeWeek : Cond.selects RX3 yX3_closeWeek yX3_closeWeek ∈ lw_all := zi3 155 rfl rfl
abbrev mX3_addAmounts : zMeth := (yX3_addAmounts, cX3_addAmounts, 5, none)
theorem wX3_addAmounts : Cond.code yX3_addAmounts cX3_addAmounts 5 none ∈ lw_all := zi3 172 rfl rfl
theorem iX3_addAmounts : Cond.instanceMethod yX3_addAmounts ∈ lw_all := zi3 171 rfl rfl
theorem eX3_addAmounts : Cond.selects RX3 yX3_addAmounts yX3_addAmounts ∈ lw_all := zs1 (q := (yX3_addAmounts, _)) 11 rfl rfl
abbrev mX3_addAmount : zMeth := (yX3_addAmount, cX3_addAmount, 3, none)
theorem wX3_addAmount : Cond.code yX3_addAmount cX3_addAmount 3 none ∈ lw_all := zi3 205 rfl rfl
theorem iX3_addAmount : Cond.instanceMethod yX3_addAmount ∈ lw_all := zi3 204 rfl rfl
theorem eX3_addAmount : Cond.selects RX3 yX3_addAmount yX3_addAmount ∈ lw_all := zs1 (q := (yX3_addAmount, _)) 13 rfl rfl
abbrev mX3_addFilmTakings : zMeth := (yX3_addFilmTakings, cX3_addFilmTakings, 2, none)
theorem wX3_addFilmTakings : Cond.code yX3_addFilmTakings cX3_addFilmTakings 2 none ∈ lw_all := zi3 213 rfl rfl
theorem iX3_addFilmTakings : Cond.instanceMethod yX3_addFilmTakings ∈ lw_all := zi3 212 rfl rfl
theorem eX3_addFilmTakings : Cond.selects RX3 yX3_addFilmTakings yX3_addFilmTakings ∈ lw_all := zs1 (q := (yX3_addFilmTakings, _)) 14 rfl rfl
abbrev mX3_addRuns : zMeth := (yX3_addRuns, cX3_addRuns, 3, none)
theorem wX3_addRuns : Cond.code yX3_addRuns cX3_addRuns 3 none ∈ lw_all := zi3 221 rfl rfl
theorem iX3_addRuns : Cond.instanceMethod yX3_addRuns ∈ lw_all := zi3 220 rfl rfl
theorem eX3_addRuns : Cond.selects RX3 yX3_addRuns yX3_addRuns ∈ lw_all := zs1 (q := (yX3_addRuns, _)) 15 rfl rfl
abbrev mX3_addRun : zMeth := (yX3_addRun, cX3_addRun, 3, none)
theorem wX3_addRun : Cond.code yX3_addRun cX3_addRun 3 none ∈ lw_all := zi3 237 rfl rfl
theorem iX3_addRun : Cond.instanceMethod yX3_addRun ∈ lw_all := zi3 236 rfl rfl
theorem eX3_addRun : Cond.selects RX3 yX3_addRun yX3_addRun ∈ lw_all := zs2 (q := (yX3_addRun, _)) 1 rfl rfl
abbrev mX3_holdScreens : zMeth := (yX3_holdScreens, cX3_holdScreens, 2, none)
theorem wX3_holdScreens : Cond.code yX3_holdScreens cX3_holdScreens 2 none ∈ lw_all := zi4 1 rfl rfl
theorem iX3_holdScreens : Cond.instanceMethod yX3_holdScreens ∈ lw_all := zi4 0 rfl rfl
theorem eX3_holdScreens : Cond.selects RX3 yX3_holdScreens yX3_holdScreens ∈ lw_all := zs2 (q := (yX3_holdScreens, _)) 2 rfl rfl
abbrev mX3_ageFilms : zMeth := (yX3_ageFilms, cX3_ageFilms, 2, none)
theorem wX3_ageFilms : Cond.code yX3_ageFilms cX3_ageFilms 2 none ∈ lw_all := zi4 18 rfl rfl
theorem iX3_ageFilms : Cond.instanceMethod yX3_ageFilms ∈ lw_all := zi4 17 rfl rfl
theorem eX3_ageFilms : Cond.selects RX3 yX3_ageFilms yX3_ageFilms ∈ lw_all := zs2 (q := (yX3_ageFilms, _)) 3 rfl rfl
abbrev mX4_init : zMeth := (yX4_init, cX4_init, 2, none)
theorem wX4_init : Cond.code yX4_init cX4_init 2 none ∈ lw_all := zi2 107 rfl rfl
theorem iX4_init : Cond.instanceMethod yX4_init ∈ lw_all := zi2 106 rfl rfl
abbrev mX4_record : zMeth := (yX4_record, cX4_record, 2, none)
theorem wX4_record : Cond.code yX4_record cX4_record 2 none ∈ lw_all := zi3 140 rfl rfl
theorem iX4_record : Cond.instanceMethod yX4_record ∈ lw_all := zi3 138 rfl rfl
theorem eX4_record : Cond.selects RX4 yX4_record yX4_record ∈ lw_all := zi3 139 rfl rfl
abbrev mX4_takeBack : zMeth := (yX4_takeBack, cX4_takeBack, 2, none)
theorem wX4_takeBack : Cond.code yX4_takeBack cX4_takeBack 2 none ∈ lw_all := zi4 81 rfl rfl
theorem iX4_takeBack : Cond.instanceMethod yX4_takeBack ∈ lw_all := zi4 79 rfl rfl
theorem eX4_takeBack : Cond.selects RX4 yX4_takeBack yX4_takeBack ∈ lw_all := zi4 80 rfl rfl
abbrev mX4_discardAll : zMeth := (yX4_discardAll, cX4_discardAll, 1, none)
theorem wX4_discardAll : Cond.code yX4_discardAll cX4_discardAll 1 none ∈ lw_all := zi5 63 rfl rfl
theorem iX4_discardAll : Cond.instanceMethod yX4_discardAll ∈ lw_all := zi5 61 rfl rfl
theorem eX4_discardAll : Cond.selects RX4 yX4_discardAll yX4_discardAll ∈ lw_all := zi5 62 rfl rfl
abbrev mX5_init : zMeth := (yX5_init, cX5_init, 4, none)
theorem wX5_init : Cond.code yX5_init cX5_init 4 none ∈ lw_all := zi2 39 rfl rfl
theorem iX5_init : Cond.instanceMethod yX5_init ∈ lw_all := zi2 38 rfl rfl
abbrev mX5_greatestGain : zMeth := (yX5_greatestGain, cX5_greatestGain, 2, (some .int))
theorem wX5_greatestGain : Cond.code yX5_greatestGain cX5_greatestGain 2 (some .int) ∈ lw_all := zi3 39 rfl rfl
theorem iX5_greatestGain : Cond.instanceMethod yX5_greatestGain ∈ lw_all := zi3 37 rfl rfl
theorem eX5_greatestGain : Cond.selects RX5 yX5_greatestGain yX5_greatestGain ∈ lw_all := zi3 38 rfl rfl
abbrev mX5_findBest : zMeth := (yX5_findBest, cX5_findBest, 4, none)
theorem wX5_findBest : Cond.code yX5_findBest cX5_findBest 4 none ∈ lw_all := zi6 12 rfl rfl
theorem iX5_findBest : Cond.instanceMethod yX5_findBest ∈ lw_all := zi6 10 rfl rfl
theorem eX5_findBest : Cond.selects RX5 yX5_findBest yX5_findBest ∈ lw_all := zi6 11 rfl rfl
abbrev mX5_settle : zMeth := (yX5_settle, cX5_settle, 4, none)
theorem wX5_settle : Cond.code yX5_settle cX5_settle 4 none ∈ lw_all := zi6 16 rfl rfl
theorem iX5_settle : Cond.instanceMethod yX5_settle ∈ lw_all := zi6 15 rfl rfl
theorem eX5_settle : Cond.selects RX5 yX5_settle yX5_settle ∈ lw_all := zs3 (q := (yX5_settle, _)) 7 rfl rfl
abbrev mX5_filmFor : zMeth := (yX5_filmFor, cX5_filmFor, 3, (some .int))
theorem wX5_filmFor : Cond.code yX5_filmFor cX5_filmFor 3 (some .int) ∈ lw_all := zi6 20 rfl rfl
theorem iX5_filmFor : Cond.instanceMethod yX5_filmFor ∈ lw_all := zi6 18 rfl rfl
theorem eX5_filmFor : Cond.selects RX5 yX5_filmFor yX5_filmFor ∈ lw_all := zi6 19 rfl rfl
abbrev mX5_bookFound : zMeth := (yX5_bookFound, cX5_bookFound, 3, (some .int))
theorem wX5_bookFound : Cond.code yX5_bookFound cX5_bookFound 3 (some .int) ∈ lw_all := zi6 92 rfl rfl
theorem iX5_bookFound : Cond.instanceMethod yX5_bookFound ∈ lw_all := zi6 90 rfl rfl
theorem eX5_bookFound : Cond.selects RX5 yX5_bookFound yX5_bookFound ∈ lw_all := zi6 91 rfl rfl
abbrev mX5_prepare : zMeth := (yX5_prepare, cX5_prepare, 3, none)
theorem wX5_prepare : Cond.code yX5_prepare cX5_prepare 3 none ∈ lw_all := zi3 43 rfl rfl
theorem iX5_prepare : Cond.instanceMethod yX5_prepare ∈ lw_all := zi3 42 rfl rfl
theorem eX5_prepare : Cond.selects RX5 yX5_prepare yX5_prepare ∈ lw_all := zs1 (q := (yX5_prepare, _)) 1 rfl rfl
abbrev mX5_addRoom : zMeth := (yX5_addRoom, cX5_addRoom, 4, none)
theorem wX5_addRoom : Cond.code yX5_addRoom cX5_addRoom 4 none ∈ lw_all := zi3 51 rfl rfl
theorem iX5_addRoom : Cond.instanceMethod yX5_addRoom ∈ lw_all := zi3 50 rfl rfl
theorem eX5_addRoom : Cond.selects RX5 yX5_addRoom yX5_addRoom ∈ lw_all := zs1 (q := (yX5_addRoom, _)) 2 rfl rfl
abbrev mX5_search : zMeth := (yX5_search, cX5_search, 4, (some .int))
theorem wX5_search : Cond.code yX5_search cX5_search 4 (some .int) ∈ lw_all := zi3 59 rfl rfl
theorem iX5_search : Cond.instanceMethod yX5_search ∈ lw_all := zi3 58 rfl rfl
theorem eX5_search : Cond.selects RX5 yX5_search yX5_search ∈ lw_all := zs1 (q := (yX5_search, _)) 3 rfl rfl
abbrev mX5_placesWith : zMeth := (yX5_placesWith, cX5_placesWith, 4, (some .int))
theorem wX5_placesWith : Cond.code yX5_placesWith cX5_placesWith 4 (some .int) ∈ lw_all := zi3 63 rfl rfl
theorem iX5_placesWith : Cond.instanceMethod yX5_placesWith ∈ lw_all := zi3 62 rfl rfl
theorem eX5_placesWith : Cond.selects RX5 yX5_placesWith yX5_placesWith ∈ lw_all := zs1 (q := (yX5_placesWith, _)) 4 rfl rfl
abbrev mX5_findFilmGains : zMeth := (yX5_findFilmGains, cX5_findFilmGains, 9, none)
theorem wX5_findFilmGains : Cond.code yX5_findFilmGains cX5_findFilmGains 9 none ∈ lw_all := zi3 68 rfl rfl
theorem iX5_findFilmGains : Cond.instanceMethod yX5_findFilmGains ∈ lw_all := zi3 67 rfl rfl
theorem eX5_findFilmGains : Cond.selects RX5 yX5_findFilmGains yX5_findFilmGains ∈ lw_all := zs1 (q := (yX5_findFilmGains, _)) 5 rfl rfl
abbrev mX5_addFilm : zMeth := (yX5_addFilm, cX5_addFilm, 3, none)
theorem wX5_addFilm : Cond.code yX5_addFilm cX5_addFilm 3 none ∈ lw_all := zi3 93 rfl rfl
theorem iX5_addFilm : Cond.instanceMethod yX5_addFilm ∈ lw_all := zi3 92 rfl rfl
theorem eX5_addFilm : Cond.selects RX5 yX5_addFilm yX5_addFilm ∈ lw_all := zs1 (q := (yX5_addFilm, _)) 6 rfl rfl
abbrev mX5_bestParting : zMeth := (yX5_bestParting, cX5_bestParting, 4, (some .int))
theorem wX5_bestParting : Cond.code yX5_bestParting cX5_bestParting 4 (some .int) ∈ lw_all := zi3 97 rfl rfl
theorem iX5_bestParting : Cond.instanceMethod yX5_bestParting ∈ lw_all := zi3 96 rfl rfl
theorem eX5_bestParting : Cond.selects RX5 yX5_bestParting yX5_bestParting ∈ lw_all := zs1 (q := (yX5_bestParting, _)) 7 rfl rfl
abbrev mX5_findMove : zMeth := (yX5_findMove, cX5_findMove, 7, (some .int))
theorem wX5_findMove : Cond.code yX5_findMove cX5_findMove 7 (some .int) ∈ lw_all := zi3 35 rfl rfl
theorem iX5_findMove : Cond.instanceMethod yX5_findMove ∈ lw_all := zi3 33 rfl rfl
theorem eX5_findMove : Cond.selects RX5 yX5_findMove yX5_findMove ∈ lw_all := zi3 34 rfl rfl
abbrev mX5_weighPlaces : zMeth := (yX5_weighPlaces, cX5_weighPlaces, 4, none)
theorem wX5_weighPlaces : Cond.code yX5_weighPlaces cX5_weighPlaces 4 none ∈ lw_all := zi3 102 rfl rfl
theorem iX5_weighPlaces : Cond.instanceMethod yX5_weighPlaces ∈ lw_all := zi3 101 rfl rfl
theorem eX5_weighPlaces : Cond.selects RX5 yX5_weighPlaces yX5_weighPlaces ∈ lw_all := zs1 (q := (yX5_weighPlaces, _)) 8 rfl rfl
abbrev mX5_heldScreens : zMeth := (yX5_heldScreens, cX5_heldScreens, 5, (some .int))
theorem wX5_heldScreens : Cond.code yX5_heldScreens cX5_heldScreens 5 (some .int) ∈ lw_all := zi3 107 rfl rfl
theorem iX5_heldScreens : Cond.instanceMethod yX5_heldScreens ∈ lw_all := zi3 106 rfl rfl
theorem eX5_heldScreens : Cond.selects RX5 yX5_heldScreens yX5_heldScreens ∈ lw_all := zs1 (q := (yX5_heldScreens, _)) 9 rfl rfl
abbrev mX5_gainChange : zMeth := (yX5_gainChange, cX5_gainChange, 4, (some .int))
theorem wX5_gainChange : Cond.code yX5_gainChange cX5_gainChange 4 (some .int) ∈ lw_all := zi3 111 rfl rfl
theorem iX5_gainChange : Cond.instanceMethod yX5_gainChange ∈ lw_all := zi3 110 rfl rfl
theorem eX5_gainChange : Cond.selects RX5 yX5_gainChange yX5_gainChange ∈ lw_all := zs1 (q := (yX5_gainChange, _)) 10 rfl rfl
abbrev mX7_init : zMeth := (yX7_init, cX7_init, 5, none)
theorem wX7_init : Cond.code yX7_init cX7_init 5 none ∈ lw_all := zi2 194 rfl rfl
theorem iX7_init : Cond.instanceMethod yX7_init ∈ lw_all := zi2 193 rfl rfl
abbrev mX7_evaluate : zMeth := (yX7_evaluate, cX7_evaluate, 4, (some .int))
theorem wX7_evaluate : Cond.code yX7_evaluate cX7_evaluate 4 (some .int) ∈ lw_all := zi7 117 rfl rfl
theorem iX7_evaluate : Cond.instanceMethod yX7_evaluate ∈ lw_all := zi7 115 rfl rfl
theorem eX7_evaluate : Cond.selects RX7 yX7_evaluate yX7_evaluate ∈ lw_all := zi7 116 rfl rfl
abbrev mX7_leastIn : zMeth := (yX7_leastIn, cX7_leastIn, 3, (some .int))
theorem wX7_leastIn : Cond.code yX7_leastIn cX7_leastIn 3 (some .int) ∈ lw_all := zi7 184 rfl rfl
theorem iX7_leastIn : Cond.instanceMethod yX7_leastIn ∈ lw_all := zi7 183 rfl rfl
theorem eX7_leastIn : Cond.selects RX7 yX7_leastIn yX7_leastIn ∈ lw_all := zs4 (q := (yX7_leastIn, _)) 2 rfl rfl
abbrev mX7_readTest : zMeth := (yX7_readTest, cX7_readTest, 5, (some .int))
theorem wX7_readTest : Cond.code yX7_readTest cX7_readTest 5 (some .int) ∈ lw_all := zi7 126 rfl rfl
theorem iX7_readTest : Cond.instanceMethod yX7_readTest ∈ lw_all := zi7 125 rfl rfl
theorem eX7_readTest : Cond.selects RX7 yX7_readTest yX7_readTest ∈ lw_all := zs3 (q := (yX7_readTest, _)) 10 rfl rfl
abbrev mX7_readFactor : zMeth := (yX7_readFactor, cX7_readFactor, 4, (some .int))
theorem wX7_readFactor : Cond.code yX7_readFactor cX7_readFactor 4 (some .int) ∈ lw_all := zi7 130 rfl rfl
theorem iX7_readFactor : Cond.instanceMethod yX7_readFactor ∈ lw_all := zi7 129 rfl rfl
theorem eX7_readFactor : Cond.selects RX7 yX7_readFactor yX7_readFactor ∈ lw_all := zs3 (q := (yX7_readFactor, _)) 11 rfl rfl
abbrev mX7_allScreens : zMeth := (yX7_allScreens, cX7_allScreens, 1, (some .int))
theorem wX7_allScreens : Cond.code yX7_allScreens cX7_allScreens 1 (some .int) ∈ lw_all := zi7 176 rfl rfl
theorem iX7_allScreens : Cond.instanceMethod yX7_allScreens ∈ lw_all := zi7 175 rfl rfl
theorem eX7_allScreens : Cond.selects RX7 yX7_allScreens yX7_allScreens ∈ lw_all := zs4 (q := (yX7_allScreens, _)) 1 rfl rfl
abbrev mX7_readComparison : zMeth := (yX7_readComparison, cX7_readComparison, 6, (some .int))
theorem wX7_readComparison : Cond.code yX7_readComparison cX7_readComparison 6 (some .int) ∈ lw_all := zi7 137 rfl rfl
theorem iX7_readComparison : Cond.instanceMethod yX7_readComparison ∈ lw_all := zi7 136 rfl rfl
theorem eX7_readComparison : Cond.selects RX7 yX7_readComparison yX7_readComparison ∈ lw_all := zs3 (q := (yX7_readComparison, _)) 12 rfl rfl
abbrev mX7_readRelation : zMeth := (yX7_readRelation, cX7_readRelation, 2, (some .int))
theorem wX7_readRelation : Cond.code yX7_readRelation cX7_readRelation 2 (some .int) ∈ lw_all := zi7 150 rfl rfl
theorem iX7_readRelation : Cond.instanceMethod yX7_readRelation ∈ lw_all := zi7 149 rfl rfl
theorem eX7_readRelation : Cond.selects RX7 yX7_readRelation yX7_readRelation ∈ lw_all := zs3 (q := (yX7_readRelation, _)) 14 rfl rfl
abbrev mX7_holds : zMeth := (yX7_holds, cX7_holds, 3, (some .boolean))
theorem wX7_holds : Cond.code yX7_holds cX7_holds 3 (some .boolean) ∈ lw_all := zi7 172 rfl rfl
theorem sX7_holds : Cond.static yX7_holds ∈ lw_all := zi7 171 rfl rfl
abbrev mX7_readValue : zMeth := (yX7_readValue, cX7_readValue, 2, (some .int))
theorem wX7_readValue : Cond.code yX7_readValue cX7_readValue 2 (some .int) ∈ lw_all := zi7 141 rfl rfl
theorem iX7_readValue : Cond.instanceMethod yX7_readValue ∈ lw_all := zi7 140 rfl rfl
theorem eX7_readValue : Cond.selects RX7 yX7_readValue yX7_readValue ∈ lw_all := zs3 (q := (yX7_readValue, _)) 13 rfl rfl
abbrev mX7_valueFor : zMeth := (yX7_valueFor, cX7_valueFor, 4, (some .int))
theorem wX7_valueFor : Cond.code yX7_valueFor cX7_valueFor 4 (some .int) ∈ lw_all := zi7 154 rfl rfl
theorem iX7_valueFor : Cond.instanceMethod yX7_valueFor ∈ lw_all := zi7 153 rfl rfl
theorem eX7_valueFor : Cond.selects RX7 yX7_valueFor yX7_valueFor ∈ lw_all := zs3 (q := (yX7_valueFor, _)) 15 rfl rfl
abbrev mX7_bookedAs : zMeth := (yX7_bookedAs, cX7_bookedAs, 2, (some .int))
theorem wX7_bookedAs : Cond.code yX7_bookedAs cX7_bookedAs 2 (some .int) ∈ lw_all := zi7 167 rfl rfl
theorem iX7_bookedAs : Cond.instanceMethod yX7_bookedAs ∈ lw_all := zi7 166 rfl rfl
theorem eX7_bookedAs : Cond.selects RX7 yX7_bookedAs yX7_bookedAs ∈ lw_all := zs4 (q := (yX7_bookedAs, _)) 0 rfl rfl
abbrev mX8_init : zMeth := (yX8_init, cX8_init, 1, none)
theorem wX8_init : Cond.code yX8_init cX8_init 1 none ∈ lw_all := zi1 168 rfl rfl
theorem iX8_init : Cond.instanceMethod yX8_init ∈ lw_all := zi1 167 rfl rfl
abbrev mX8_clear : zMeth := (yX8_clear, cX8_clear, 1, none)
theorem wX8_clear : Cond.code yX8_clear cX8_clear 1 none ∈ lw_all := zi2 212 rfl rfl
theorem iX8_clear : Cond.instanceMethod yX8_clear ∈ lw_all := zi2 210 rfl rfl
theorem eX8_clear : Cond.selects RX8 yX8_clear yX8_clear ∈ lw_all := zi2 211 rfl rfl
abbrev mX8_copyFrom : zMeth := (yX8_copyFrom, cX8_copyFrom, 2, none)
theorem wX8_copyFrom : Cond.code yX8_copyFrom cX8_copyFrom 2 none ∈ lw_all := zi3 144 rfl rfl
theorem iX8_copyFrom : Cond.instanceMethod yX8_copyFrom ∈ lw_all := zi3 142 rfl rfl
theorem eX8_copyFrom : Cond.selects RX8 yX8_copyFrom yX8_copyFrom ∈ lw_all := zi3 143 rfl rfl
abbrev mX8_filmOn : zMeth := (yX8_filmOn, cX8_filmOn, 4, (some .int))
theorem wX8_filmOn : Cond.code yX8_filmOn cX8_filmOn 4 (some .int) ∈ lw_all := zi3 192 rfl rfl
theorem iX8_filmOn : Cond.instanceMethod yX8_filmOn ∈ lw_all := zi3 190 rfl rfl
theorem eX8_filmOn : Cond.selects RX8 yX8_filmOn yX8_filmOn ∈ lw_all := zi3 191 rfl rfl
abbrev mX8_setBooking : zMeth := (yX8_setBooking, cX8_setBooking, 5, none)
theorem wX8_setBooking : Cond.code yX8_setBooking cX8_setBooking 5 none ∈ lw_all := zi4 10 rfl rfl
theorem iX8_setBooking : Cond.instanceMethod yX8_setBooking ∈ lw_all := zi4 8 rfl rfl
theorem eX8_setBooking : Cond.selects RX8 yX8_setBooking yX8_setBooking ∈ lw_all := zi4 9 rfl rfl
abbrev mX8_isBookedWhole : zMeth := (yX8_isBookedWhole, cX8_isBookedWhole, 3, (some .boolean))
theorem wX8_isBookedWhole : Cond.code yX8_isBookedWhole cX8_isBookedWhole 3 (some .boolean) ∈ lw_all := zi6 96 rfl rfl
theorem iX8_isBookedWhole : Cond.instanceMethod yX8_isBookedWhole ∈ lw_all := zi6 94 rfl rfl
theorem eX8_isBookedWhole : Cond.selects RX8 yX8_isBookedWhole yX8_isBookedWhole ∈ lw_all := zi6 95 rfl rfl
abbrev mX8_printsAt : zMeth := (yX8_printsAt, cX8_printsAt, 3, (some .int))
theorem wX8_printsAt : Cond.code yX8_printsAt cX8_printsAt 3 (some .int) ∈ lw_all := zi3 55 rfl rfl
theorem iX8_printsAt : Cond.instanceMethod yX8_printsAt ∈ lw_all := zi3 53 rfl rfl
theorem eX8_printsAt : Cond.selects RX8 yX8_printsAt yX8_printsAt ∈ lw_all := zi3 54 rfl rfl
abbrev mX8_addPrints : zMeth := (yX8_addPrints, cX8_addPrints, 4, none)
theorem wX8_addPrints : Cond.code yX8_addPrints cX8_addPrints 4 none ∈ lw_all := zi5 41 rfl rfl
theorem iX8_addPrints : Cond.instanceMethod yX8_addPrints ∈ lw_all := zi5 39 rfl rfl
theorem eX8_addPrints : Cond.selects RX8 yX8_addPrints yX8_addPrints ∈ lw_all := zi5 40 rfl rfl
abbrev mX8_ageOf : zMeth := (yX8_ageOf, cX8_ageOf, 2, (some .int))
theorem wX8_ageOf : Cond.code yX8_ageOf cX8_ageOf 2 (some .int) ∈ lw_all := zi5 139 rfl rfl
theorem iX8_ageOf : Cond.instanceMethod yX8_ageOf ∈ lw_all := zi5 137 rfl rfl
theorem eX8_ageOf : Cond.selects RX8 yX8_ageOf yX8_ageOf ∈ lw_all := zi5 138 rfl rfl
abbrev mX8_runOf : zMeth := (yX8_runOf, cX8_runOf, 3, (some .int))
theorem wX8_runOf : Cond.code yX8_runOf cX8_runOf 3 (some .int) ∈ lw_all := zi3 85 rfl rfl
theorem iX8_runOf : Cond.instanceMethod yX8_runOf ∈ lw_all := zi3 83 rfl rfl
theorem eX8_runOf : Cond.selects RX8 yX8_runOf yX8_runOf ∈ lw_all := zi3 84 rfl rfl
abbrev mX8_logged : zMeth := (yX8_logged, cX8_logged, 3, (some .int))
theorem wX8_logged : Cond.code yX8_logged cX8_logged 3 (some .int) ∈ lw_all := zi6 39 rfl rfl
theorem iX8_logged : Cond.instanceMethod yX8_logged ∈ lw_all := zi6 37 rfl rfl
theorem eX8_logged : Cond.selects RX8 yX8_logged yX8_logged ∈ lw_all := zi6 38 rfl rfl
abbrev mX8_writeLog : zMeth := (yX8_writeLog, cX8_writeLog, 4, none)
theorem wX8_writeLog : Cond.code yX8_writeLog cX8_writeLog 4 none ∈ lw_all := zi3 209 rfl rfl
theorem iX8_writeLog : Cond.instanceMethod yX8_writeLog ∈ lw_all := zi3 207 rfl rfl
theorem eX8_writeLog : Cond.selects RX8 yX8_writeLog yX8_writeLog ∈ lw_all := zi3 208 rfl rfl
abbrev mX8_countBooked : zMeth := (yX8_countBooked, cX8_countBooked, 4, (some .int))
theorem wX8_countBooked : Cond.code yX8_countBooked cX8_countBooked 4 (some .int) ∈ lw_all := zi5 75 rfl rfl
theorem iX8_countBooked : Cond.instanceMethod yX8_countBooked ∈ lw_all := zi5 73 rfl rfl
theorem eX8_countBooked : Cond.selects RX8 yX8_countBooked yX8_countBooked ∈ lw_all := zi5 74 rfl rfl
abbrev mX8_countHeld : zMeth := (yX8_countHeld, cX8_countHeld, 4, (some .int))
theorem wX8_countHeld : Cond.code yX8_countHeld cX8_countHeld 4 (some .int) ∈ lw_all := zi4 14 rfl rfl
theorem iX8_countHeld : Cond.instanceMethod yX8_countHeld ∈ lw_all := zi4 12 rfl rfl
theorem eX8_countHeld : Cond.selects RX8 yX8_countHeld yX8_countHeld ∈ lw_all := zi4 13 rfl rfl
abbrev mX9_init : zMeth := (yX9_init, cX9_init, 2, none)
theorem wX9_init : Cond.code yX9_init cX9_init 2 none ∈ lw_all := zi2 135 rfl rfl
theorem iX9_init : Cond.instanceMethod yX9_init ∈ lw_all := zi2 134 rfl rfl
abbrev mX9_begin : zMeth := (yX9_begin, cX9_begin, 2, none)
theorem wX9_begin : Cond.code yX9_begin cX9_begin 2 none ∈ lw_all := zi4 181 rfl rfl
theorem iX9_begin : Cond.instanceMethod yX9_begin ∈ lw_all := zi4 179 rfl rfl
theorem eX9_begin : Cond.selects RX9 yX9_begin yX9_begin ∈ lw_all := zi4 180 rfl rfl
abbrev mX9_failed : zMeth := (yX9_failed, cX9_failed, 1, (some .boolean))
theorem wX9_failed : Cond.code yX9_failed cX9_failed 1 (some .boolean) ∈ lw_all := zi5 54 rfl rfl
theorem iX9_failed : Cond.instanceMethod yX9_failed ∈ lw_all := zi5 52 rfl rfl
theorem eX9_failed : Cond.selects RX9 yX9_failed yX9_failed ∈ lw_all := zi5 53 rfl rfl
abbrev mX9_fail : zMeth := (yX9_fail, cX9_fail, 2, none)
theorem wX9_fail : Cond.code yX9_fail cX9_fail 2 none ∈ lw_all := zi4 233 rfl rfl
theorem iX9_fail : Cond.instanceMethod yX9_fail ∈ lw_all := zi4 231 rfl rfl
theorem eX9_fail : Cond.selects RX9 yX9_fail yX9_fail ∈ lw_all := zi4 232 rfl rfl
abbrev mX9_advance : zMeth := (yX9_advance, cX9_advance, 1, none)
theorem wX9_advance : Cond.code yX9_advance cX9_advance 1 none ∈ lw_all := zi4 186 rfl rfl
theorem iX9_advance : Cond.instanceMethod yX9_advance ∈ lw_all := zi4 184 rfl rfl
theorem eX9_advance : Cond.selects RX9 yX9_advance yX9_advance ∈ lw_all := zi4 185 rfl rfl
abbrev mX9_isWord : zMeth := (yX9_isWord, cX9_isWord, 3, (some .boolean))
theorem wX9_isWord : Cond.code yX9_isWord cX9_isWord 3 (some .boolean) ∈ lw_all := zi4 196 rfl rfl
theorem iX9_isWord : Cond.instanceMethod yX9_isWord ∈ lw_all := zi4 194 rfl rfl
theorem eX9_isWord : Cond.selects RX9 yX9_isWord yX9_isWord ∈ lw_all := zi4 195 rfl rfl
abbrev mX9_isSign : zMeth := (yX9_isSign, cX9_isSign, 2, (some .boolean))
theorem wX9_isSign : Cond.code yX9_isSign cX9_isSign 2 (some .boolean) ∈ lw_all := zi5 7 rfl rfl
theorem iX9_isSign : Cond.instanceMethod yX9_isSign ∈ lw_all := zi5 5 rfl rfl
theorem eX9_isSign : Cond.selects RX9 yX9_isSign yX9_isSign ∈ lw_all := zi5 6 rfl rfl
abbrev mX9_takeWord : zMeth := (yX9_takeWord, cX9_takeWord, 3, (some .boolean))
theorem wX9_takeWord : Cond.code yX9_takeWord cX9_takeWord 3 (some .boolean) ∈ lw_all := zi5 30 rfl rfl
theorem iX9_takeWord : Cond.instanceMethod yX9_takeWord ∈ lw_all := zi5 28 rfl rfl
theorem eX9_takeWord : Cond.selects RX9 yX9_takeWord yX9_takeWord ∈ lw_all := zi5 29 rfl rfl
abbrev mX9_takeSign : zMeth := (yX9_takeSign, cX9_takeSign, 2, none)
theorem wX9_takeSign : Cond.code yX9_takeSign cX9_takeSign 2 none ∈ lw_all := zi5 3 rfl rfl
theorem iX9_takeSign : Cond.instanceMethod yX9_takeSign ∈ lw_all := zi5 1 rfl rfl
theorem eX9_takeSign : Cond.selects RX9 yX9_takeSign yX9_takeSign ∈ lw_all := zi5 2 rfl rfl
abbrev mX9_takeNumber : zMeth := (yX9_takeNumber, cX9_takeNumber, 4, (some .int))
theorem wX9_takeNumber : Cond.code yX9_takeNumber cX9_takeNumber 4 (some .int) ∈ lw_all := zi4 238 rfl rfl
theorem iX9_takeNumber : Cond.instanceMethod yX9_takeNumber ∈ lw_all := zi4 236 rfl rfl
theorem eX9_takeNumber : Cond.selects RX9 yX9_takeNumber yX9_takeNumber ∈ lw_all := zi4 237 rfl rfl
abbrev mX10_init : zMeth := (yX10_init, cX10_init, 3, none)
theorem wX10_init : Cond.code yX10_init cX10_init 3 none ∈ lw_all := zi2 20 rfl rfl
theorem iX10_init : Cond.instanceMethod yX10_init ∈ lw_all := zi2 19 rfl rfl
abbrev mX10_refresh : zMeth := (yX10_refresh, cX10_refresh, 5, none)
theorem wX10_refresh : Cond.code yX10_refresh cX10_refresh 5 none ∈ lw_all := zi4 22 rfl rfl
theorem iX10_refresh : Cond.instanceMethod yX10_refresh ∈ lw_all := zi4 20 rfl rfl
theorem eX10_refresh : Cond.selects RX10 yX10_refresh yX10_refresh ∈ lw_all := zi4 21 rfl rfl
abbrev mX10_expectedVisitors : zMeth := (yX10_expectedVisitors, cX10_expectedVisitors, 6, (some .int))
theorem wX10_expectedVisitors : Cond.code yX10_expectedVisitors cX10_expectedVisitors 6 (some .int) ∈ lw_all := zi4 26 rfl rfl
theorem iX10_expectedVisitors : Cond.instanceMethod yX10_expectedVisitors ∈ lw_all := zi4 25 rfl rfl
theorem eX10_expectedVisitors : Cond.selects RX10 yX10_expectedVisitors yX10_expectedVisitors ∈ lw_all := zs2 (q := (yX10_expectedVisitors, _)) 4 rfl rfl
abbrev mX10_isServedBefore : zMeth := (yX10_isServedBefore, cX10_isServedBefore, 4, (some .boolean))
theorem wX10_isServedBefore : Cond.code yX10_isServedBefore cX10_isServedBefore 4 (some .boolean) ∈ lw_all := zi4 30 rfl rfl
theorem iX10_isServedBefore : Cond.instanceMethod yX10_isServedBefore ∈ lw_all := zi4 29 rfl rfl
theorem eX10_isServedBefore : Cond.selects RX10 yX10_isServedBefore yX10_isServedBefore ∈ lw_all := zs2 (q := (yX10_isServedBefore, _)) 5 rfl rfl
abbrev mX10_expectedTakings : zMeth := (yX10_expectedTakings, cX10_expectedTakings, 5, (some .int))
theorem wX10_expectedTakings : Cond.code yX10_expectedTakings cX10_expectedTakings 5 (some .int) ∈ lw_all := zi5 217 rfl rfl
theorem iX10_expectedTakings : Cond.instanceMethod yX10_expectedTakings ∈ lw_all := zi5 215 rfl rfl
theorem eX10_expectedTakings : Cond.selects RX10 yX10_expectedTakings yX10_expectedTakings ∈ lw_all := zi5 216 rfl rfl
abbrev mX10_visitorsOn : zMeth := (yX10_visitorsOn, cX10_visitorsOn, 3, (some .int))
theorem wX10_visitorsOn : Cond.code yX10_visitorsOn cX10_visitorsOn 3 (some .int) ∈ lw_all := zi3 196 rfl rfl
theorem iX10_visitorsOn : Cond.instanceMethod yX10_visitorsOn ∈ lw_all := zi3 194 rfl rfl
theorem eX10_visitorsOn : Cond.selects RX10 yX10_visitorsOn yX10_visitorsOn ∈ lw_all := zi3 195 rfl rfl
abbrev mX10_visitorsSince : zMeth := (yX10_visitorsSince, cX10_visitorsSince, 5, (some .int))
theorem wX10_visitorsSince : Cond.code yX10_visitorsSince cX10_visitorsSince 5 (some .int) ∈ lw_all := zi3 132 rfl rfl
theorem iX10_visitorsSince : Cond.instanceMethod yX10_visitorsSince ∈ lw_all := zi3 130 rfl rfl
theorem eX10_visitorsSince : Cond.selects RX10 yX10_visitorsSince yX10_visitorsSince ∈ lw_all := zi3 131 rfl rfl
abbrev mX10_screenTakings : zMeth := (yX10_screenTakings, cX10_screenTakings, 2, (some .int))
theorem wX10_screenTakings : Cond.code yX10_screenTakings cX10_screenTakings 2 (some .int) ∈ lw_all := zi3 164 rfl rfl
theorem iX10_screenTakings : Cond.instanceMethod yX10_screenTakings ∈ lw_all := zi3 162 rfl rfl
theorem eX10_screenTakings : Cond.selects RX10 yX10_screenTakings yX10_screenTakings ∈ lw_all := zi3 163 rfl rfl
abbrev mX10_allTakings : zMeth := (yX10_allTakings, cX10_allTakings, 3, (some .int))
theorem wX10_allTakings : Cond.code yX10_allTakings cX10_allTakings 3 (some .int) ∈ lw_all := zi3 160 rfl rfl
theorem iX10_allTakings : Cond.instanceMethod yX10_allTakings ∈ lw_all := zi3 158 rfl rfl
theorem eX10_allTakings : Cond.selects RX10 yX10_allTakings yX10_allTakings ∈ lw_all := zi3 159 rfl rfl
abbrev mX10_allVisitors : zMeth := (yX10_allVisitors, cX10_allVisitors, 3, (some .int))
theorem wX10_allVisitors : Cond.code yX10_allVisitors cX10_allVisitors 3 (some .int) ∈ lw_all := zi3 128 rfl rfl
theorem iX10_allVisitors : Cond.instanceMethod yX10_allVisitors ∈ lw_all := zi3 126 rfl rfl
theorem eX10_allVisitors : Cond.selects RX10 yX10_allVisitors yX10_allVisitors ∈ lw_all := zi3 127 rfl rfl
abbrev mX10_allRoom : zMeth := (yX10_allRoom, cX10_allRoom, 3, (some .int))
theorem wX10_allRoom : Cond.code yX10_allRoom cX10_allRoom 3 (some .int) ∈ lw_all := zi3 123 rfl rfl
theorem iX10_allRoom : Cond.instanceMethod yX10_allRoom ∈ lw_all := zi3 121 rfl rfl
theorem eX10_allRoom : Cond.selects RX10 yX10_allRoom yX10_allRoom ∈ lw_all := zi3 122 rfl rfl
abbrev mX10_houseTakings : zMeth := (yX10_houseTakings, cX10_houseTakings, 4, (some .int))
theorem wX10_houseTakings : Cond.code yX10_houseTakings cX10_houseTakings 4 (some .int) ∈ lw_all := zi5 108 rfl rfl
theorem iX10_houseTakings : Cond.instanceMethod yX10_houseTakings ∈ lw_all := zi5 106 rfl rfl
theorem eX10_houseTakings : Cond.selects RX10 yX10_houseTakings yX10_houseTakings ∈ lw_all := zi5 107 rfl rfl
abbrev mX10_houseRents : zMeth := (yX10_houseRents, cX10_houseRents, 4, (some .int))
theorem wX10_houseRents : Cond.code yX10_houseRents cX10_houseRents 4 (some .int) ∈ lw_all := zi3 201 rfl rfl
theorem iX10_houseRents : Cond.instanceMethod yX10_houseRents ∈ lw_all := zi3 199 rfl rfl
theorem eX10_houseRents : Cond.selects RX10 yX10_houseRents yX10_houseRents ∈ lw_all := zi3 200 rfl rfl
abbrev mX10_filmTakingsIn : zMeth := (yX10_filmTakingsIn, cX10_filmTakingsIn, 5, (some .int))
theorem wX10_filmTakingsIn : Cond.code yX10_filmTakingsIn cX10_filmTakingsIn 5 (some .int) ∈ lw_all := zi3 184 rfl rfl
theorem iX10_filmTakingsIn : Cond.instanceMethod yX10_filmTakingsIn ∈ lw_all := zi3 182 rfl rfl
theorem eX10_filmTakingsIn : Cond.selects RX10 yX10_filmTakingsIn yX10_filmTakingsIn ∈ lw_all := zi3 183 rfl rfl
abbrev mX10_filmVisitorsOn : zMeth := (yX10_filmVisitorsOn, cX10_filmVisitorsOn, 5, (some .int))
theorem wX10_filmVisitorsOn : Cond.code yX10_filmVisitorsOn cX10_filmVisitorsOn 5 (some .int) ∈ lw_all := zi3 188 rfl rfl
theorem iX10_filmVisitorsOn : Cond.instanceMethod yX10_filmVisitorsOn ∈ lw_all := zi3 187 rfl rfl
theorem eX10_filmVisitorsOn : Cond.selects RX10 yX10_filmVisitorsOn yX10_filmVisitorsOn ∈ lw_all := zs1 (q := (yX10_filmVisitorsOn, _)) 12 rfl rfl
abbrev mX10_filmTakings : zMeth := (yX10_filmTakings, cX10_filmTakings, 4, (some .int))
theorem wX10_filmTakings : Cond.code yX10_filmTakings cX10_filmTakings 4 (some .int) ∈ lw_all := zi3 217 rfl rfl
theorem iX10_filmTakings : Cond.instanceMethod yX10_filmTakings ∈ lw_all := zi3 215 rfl rfl
theorem eX10_filmTakings : Cond.selects RX10 yX10_filmTakings yX10_filmTakings ∈ lw_all := zi3 216 rfl rfl
abbrev mX10_shareOf : zMeth := (yX10_shareOf, cX10_shareOf, 6, (some .int))
theorem wX10_shareOf : Cond.code yX10_shareOf cX10_shareOf 6 (some .int) ∈ lw_all := zi3 81 rfl rfl
theorem iX10_shareOf : Cond.instanceMethod yX10_shareOf ∈ lw_all := zi3 79 rfl rfl
theorem eX10_shareOf : Cond.selects RX10 yX10_shareOf yX10_shareOf ∈ lw_all := zi3 80 rfl rfl
abbrev mX10_shareIn : zMeth := (yX10_shareIn, cX10_shareIn, 3, (some .int))
theorem wX10_shareIn : Cond.code yX10_shareIn cX10_shareIn 3 (some .int) ∈ lw_all := zi3 180 rfl rfl
theorem iX10_shareIn : Cond.instanceMethod yX10_shareIn ∈ lw_all := zi3 178 rfl rfl
theorem eX10_shareIn : Cond.selects RX10 yX10_shareIn yX10_shareIn ∈ lw_all := zi3 179 rfl rfl
abbrev mX10_houseShares : zMeth := (yX10_houseShares, cX10_houseShares, 4, (some .int))
theorem wX10_houseShares : Cond.code yX10_houseShares cX10_houseShares 4 (some .int) ∈ lw_all := zi3 176 rfl rfl
theorem iX10_houseShares : Cond.instanceMethod yX10_houseShares ∈ lw_all := zi3 174 rfl rfl
theorem eX10_houseShares : Cond.selects RX10 yX10_houseShares yX10_houseShares ∈ lw_all := zi3 175 rfl rfl
abbrev mX10_fillsWell : zMeth := (yX10_fillsWell, cX10_fillsWell, 6, (some .boolean))
theorem wX10_fillsWell : Cond.code yX10_fillsWell cX10_fillsWell 6 (some .boolean) ∈ lw_all := zi4 5 rfl rfl
theorem iX10_fillsWell : Cond.instanceMethod yX10_fillsWell ∈ lw_all := zi4 3 rfl rfl
theorem eX10_fillsWell : Cond.selects RX10 yX10_fillsWell yX10_fillsWell ∈ lw_all := zi4 4 rfl rfl
abbrev mX10_screensShowing : zMeth := (yX10_screensShowing, cX10_screensShowing, 6, (some .int))
theorem wX10_screensShowing : Cond.code yX10_screensShowing cX10_screensShowing 6 (some .int) ∈ lw_all := zi3 233 rfl rfl
theorem iX10_screensShowing : Cond.instanceMethod yX10_screensShowing ∈ lw_all := zi3 232 rfl rfl
theorem eX10_screensShowing : Cond.selects RX10 yX10_screensShowing yX10_screensShowing ∈ lw_all := zs2 (q := (yX10_screensShowing, _)) 0 rfl rfl
abbrev mX10_printsNeeded : zMeth := (yX10_printsNeeded, cX10_printsNeeded, 5, (some .int))
theorem wX10_printsNeeded : Cond.code yX10_printsNeeded cX10_printsNeeded 5 (some .int) ∈ lw_all := zi3 229 rfl rfl
theorem iX10_printsNeeded : Cond.instanceMethod yX10_printsNeeded ∈ lw_all := zi3 227 rfl rfl
theorem eX10_printsNeeded : Cond.selects RX10 yX10_printsNeeded yX10_printsNeeded ∈ lw_all := zi3 228 rfl rfl
abbrev mX10_hasPrintsFor : zMeth := (yX10_hasPrintsFor, cX10_hasPrintsFor, 9, (some .boolean))
theorem wX10_hasPrintsFor : Cond.code yX10_hasPrintsFor cX10_hasPrintsFor 9 (some .boolean) ∈ lw_all := zi6 54 rfl rfl
theorem iX10_hasPrintsFor : Cond.instanceMethod yX10_hasPrintsFor ∈ lw_all := zi6 52 rfl rfl
theorem eX10_hasPrintsFor : Cond.selects RX10 yX10_hasPrintsFor yX10_hasPrintsFor ∈ lw_all := zi6 53 rfl rfl
abbrev mX10_isShownIn : zMeth := (yX10_isShownIn, cX10_isShownIn, 3, (some .boolean))
theorem wX10_isShownIn : Cond.code yX10_isShownIn cX10_isShownIn 3 (some .boolean) ∈ lw_all := zi3 225 rfl rfl
theorem iX10_isShownIn : Cond.instanceMethod yX10_isShownIn ∈ lw_all := zi3 223 rfl rfl
theorem eX10_isShownIn : Cond.selects RX10 yX10_isShownIn yX10_isShownIn ∈ lw_all := zi3 224 rfl rfl
abbrev mX10_filmAtPlace : zMeth := (yX10_filmAtPlace, cX10_filmAtPlace, 3, (some .int))
theorem wX10_filmAtPlace : Cond.code yX10_filmAtPlace cX10_filmAtPlace 3 (some .int) ∈ lw_all := zi5 228 rfl rfl
theorem iX10_filmAtPlace : Cond.instanceMethod yX10_filmAtPlace ∈ lw_all := zi5 226 rfl rfl
theorem eX10_filmAtPlace : Cond.selects RX10 yX10_filmAtPlace yX10_filmAtPlace ∈ lw_all := zi5 227 rfl rfl
abbrev mX10_filmsAhead : zMeth := (yX10_filmsAhead, cX10_filmsAhead, 5, (some .int))
theorem wX10_filmsAhead : Cond.code yX10_filmsAhead cX10_filmsAhead 5 (some .int) ∈ lw_all := zi5 233 rfl rfl
theorem iX10_filmsAhead : Cond.instanceMethod yX10_filmsAhead ∈ lw_all := zi5 232 rfl rfl
theorem eX10_filmsAhead : Cond.selects RX10 yX10_filmsAhead yX10_filmsAhead ∈ lw_all := zs3 (q := (yX10_filmsAhead, _)) 6 rfl rfl
abbrev mX11_init : zMeth := (yX11_init, cX11_init, 1, none)
theorem wX11_init : Cond.code yX11_init cX11_init 1 none ∈ lw_all := zi1 34 rfl rfl
theorem iX11_init : Cond.instanceMethod yX11_init ∈ lw_all := zi1 33 rfl rfl
abbrev mX11_feed : zMeth := (yX11_feed, cX11_feed, 6, (some .int))
theorem wX11_feed : Cond.code yX11_feed cX11_feed 6 (some .int) ∈ lw_all := zi3 19 rfl rfl
theorem iX11_feed : Cond.instanceMethod yX11_feed ∈ lw_all := zi3 17 rfl rfl
theorem eX11_feed : Cond.selects RX11 yX11_feed yX11_feed ∈ lw_all := zi3 18 rfl rfl
abbrev mX11_append : zMeth := (yX11_append, cX11_append, 3, none)
theorem wX11_append : Cond.code yX11_append cX11_append 3 none ∈ lw_all := zi3 23 rfl rfl
theorem iX11_append : Cond.instanceMethod yX11_append ∈ lw_all := zi3 22 rfl rfl
theorem eX11_append : Cond.selects RX11 yX11_append yX11_append ∈ lw_all := zs1 (q := (yX11_append, _)) 0 rfl rfl
abbrev mX11_load : zMeth := (yX11_load, cX11_load, 2, (some .int))
theorem wX11_load : Cond.code yX11_load cX11_load 2 (some .int) ∈ lw_all := zi4 98 rfl rfl
theorem iX11_load : Cond.instanceMethod yX11_load ∈ lw_all := zi4 96 rfl rfl
theorem eX11_load : Cond.selects RX11 yX11_load yX11_load ∈ lw_all := zi4 97 rfl rfl
abbrev mX11_query : zMeth := (yX11_query, cX11_query, 3, (some .int))
theorem wX11_query : Cond.code yX11_query cX11_query 3 (some .int) ∈ lw_all := zi7 113 rfl rfl
theorem iX11_query : Cond.instanceMethod yX11_query ∈ lw_all := zi7 111 rfl rfl
theorem eX11_query : Cond.selects RX11 yX11_query yX11_query ∈ lw_all := zi7 112 rfl rfl
abbrev mX11_checkLength : zMeth := (yX11_checkLength, cX11_checkLength, 3, none)
theorem wX11_checkLength : Cond.code yX11_checkLength cX11_checkLength 3 none ∈ lw_all := zi4 102 rfl rfl
theorem iX11_checkLength : Cond.instanceMethod yX11_checkLength ∈ lw_all := zi4 101 rfl rfl
theorem eX11_checkLength : Cond.selects RX11 yX11_checkLength yX11_checkLength ∈ lw_all := zs2 (q := (yX11_checkLength, _)) 6 rfl rfl
abbrev mX11_finishReading : zMeth := (yX11_finishReading, cX11_finishReading, 1, none)
theorem wX11_finishReading : Cond.code yX11_finishReading cX11_finishReading 1 none ∈ lw_all := zi5 50 rfl rfl
theorem iX11_finishReading : Cond.instanceMethod yX11_finishReading ∈ lw_all := zi5 49 rfl rfl
theorem eX11_finishReading : Cond.selects RX11 yX11_finishReading yX11_finishReading ∈ lw_all := zs3 (q := (yX11_finishReading, _)) 0 rfl rfl
abbrev mX11_errorPosition : zMeth := (yX11_errorPosition, cX11_errorPosition, 1, (some .int))
theorem wX11_errorPosition : Cond.code yX11_errorPosition cX11_errorPosition 1 (some .int) ∈ lw_all := zi3 27 rfl rfl
theorem iX11_errorPosition : Cond.instanceMethod yX11_errorPosition ∈ lw_all := zi3 25 rfl rfl
theorem eX11_errorPosition : Cond.selects RX11 yX11_errorPosition yX11_errorPosition ∈ lw_all := zi3 26 rfl rfl
abbrev mX11_size : zMeth := (yX11_size, cX11_size, 2, (some .int))
theorem wX11_size : Cond.code yX11_size cX11_size 2 (some .int) ∈ lw_all := zi5 71 rfl rfl
theorem iX11_size : Cond.instanceMethod yX11_size ∈ lw_all := zi5 69 rfl rfl
theorem eX11_size : Cond.selects RX11 yX11_size yX11_size ∈ lw_all := zi5 70 rfl rfl
abbrev mX11_house : zMeth := (yX11_house, cX11_house, 3, (some .int))
theorem wX11_house : Cond.code yX11_house cX11_house 3 (some .int) ∈ lw_all := zi5 99 rfl rfl
theorem iX11_house : Cond.instanceMethod yX11_house ∈ lw_all := zi5 97 rfl rfl
theorem eX11_house : Cond.selects RX11 yX11_house yX11_house ∈ lw_all := zi5 98 rfl rfl
abbrev mX11_screen : zMeth := (yX11_screen, cX11_screen, 3, (some .int))
theorem wX11_screen : Cond.code yX11_screen cX11_screen 3 (some .int) ∈ lw_all := zi5 117 rfl rfl
theorem iX11_screen : Cond.instanceMethod yX11_screen ∈ lw_all := zi5 115 rfl rfl
theorem eX11_screen : Cond.selects RX11 yX11_screen yX11_screen ∈ lw_all := zi5 116 rfl rfl
abbrev mX11_film : zMeth := (yX11_film, cX11_film, 3, (some .int))
theorem wX11_film : Cond.code yX11_film cX11_film 3 (some .int) ∈ lw_all := zi5 130 rfl rfl
theorem iX11_film : Cond.instanceMethod yX11_film ∈ lw_all := zi5 128 rfl rfl
theorem eX11_film : Cond.selects RX11 yX11_film yX11_film ∈ lw_all := zi5 129 rfl rfl
abbrev mX11_term : zMeth := (yX11_term, cX11_term, 3, (some .int))
theorem wX11_term : Cond.code yX11_term cX11_term 3 (some .int) ∈ lw_all := zi5 147 rfl rfl
theorem iX11_term : Cond.instanceMethod yX11_term ∈ lw_all := zi5 145 rfl rfl
theorem eX11_term : Cond.selects RX11 yX11_term yX11_term ∈ lw_all := zi5 146 rfl rfl
abbrev mX11_prints : zMeth := (yX11_prints, cX11_prints, 3, (some .int))
theorem wX11_prints : Cond.code yX11_prints cX11_prints 3 (some .int) ∈ lw_all := zi5 155 rfl rfl
theorem iX11_prints : Cond.instanceMethod yX11_prints ∈ lw_all := zi5 153 rfl rfl
theorem eX11_prints : Cond.selects RX11 yX11_prints yX11_prints ∈ lw_all := zi5 154 rfl rfl
abbrev mX11_shown : zMeth := (yX11_shown, cX11_shown, 3, (some .int))
theorem wX11_shown : Cond.code yX11_shown cX11_shown 3 (some .int) ∈ lw_all := zi5 168 rfl rfl
theorem iX11_shown : Cond.instanceMethod yX11_shown ∈ lw_all := zi5 166 rfl rfl
theorem eX11_shown : Cond.selects RX11 yX11_shown yX11_shown ∈ lw_all := zi5 167 rfl rfl
abbrev mX11_visitors : zMeth := (yX11_visitors, cX11_visitors, 3, (some .int))
theorem wX11_visitors : Cond.code yX11_visitors cX11_visitors 3 (some .int) ∈ lw_all := zi5 181 rfl rfl
theorem iX11_visitors : Cond.instanceMethod yX11_visitors ∈ lw_all := zi5 179 rfl rfl
theorem eX11_visitors : Cond.selects RX11 yX11_visitors yX11_visitors ∈ lw_all := zi5 180 rfl rfl
abbrev mX11_share : zMeth := (yX11_share, cX11_share, 3, (some .int))
theorem wX11_share : Cond.code yX11_share cX11_share 3 (some .int) ∈ lw_all := zi5 189 rfl rfl
theorem iX11_share : Cond.instanceMethod yX11_share ∈ lw_all := zi5 187 rfl rfl
theorem eX11_share : Cond.selects RX11 yX11_share yX11_share ∈ lw_all := zi5 188 rfl rfl
abbrev mX11_run : zMeth := (yX11_run, cX11_run, 3, (some .int))
theorem wX11_run : Cond.code yX11_run cX11_run 3 (some .int) ∈ lw_all := zi5 197 rfl rfl
theorem iX11_run : Cond.instanceMethod yX11_run ∈ lw_all := zi5 195 rfl rfl
theorem eX11_run : Cond.selects RX11 yX11_run yX11_run ∈ lw_all := zi5 196 rfl rfl
abbrev mX11_wouldHold : zMeth := (yX11_wouldHold, cX11_wouldHold, 2, (some .boolean))
theorem wX11_wouldHold : Cond.code yX11_wouldHold cX11_wouldHold 2 (some .boolean) ∈ lw_all := zi5 205 rfl rfl
theorem iX11_wouldHold : Cond.instanceMethod yX11_wouldHold ∈ lw_all := zi5 203 rfl rfl
theorem eX11_wouldHold : Cond.selects RX11 yX11_wouldHold yX11_wouldHold ∈ lw_all := zi5 204 rfl rfl
abbrev mX11_forecast : zMeth := (yX11_forecast, cX11_forecast, 3, (some .int))
theorem wX11_forecast : Cond.code yX11_forecast cX11_forecast 3 (some .int) ∈ lw_all := zi5 213 rfl rfl
theorem iX11_forecast : Cond.instanceMethod yX11_forecast ∈ lw_all := zi5 211 rfl rfl
theorem eX11_forecast : Cond.selects RX11 yX11_forecast yX11_forecast ∈ lw_all := zi5 212 rfl rfl
abbrev mX11_chart : zMeth := (yX11_chart, cX11_chart, 2, (some .int))
theorem wX11_chart : Cond.code yX11_chart cX11_chart 2 (some .int) ∈ lw_all := zi5 224 rfl rfl
theorem iX11_chart : Cond.instanceMethod yX11_chart ∈ lw_all := zi5 222 rfl rfl
theorem eX11_chart : Cond.selects RX11 yX11_chart yX11_chart ∈ lw_all := zi5 223 rfl rfl
abbrev mX11_bestGain : zMeth := (yX11_bestGain, cX11_bestGain, 2, (some .int))
theorem wX11_bestGain : Cond.code yX11_bestGain cX11_bestGain 2 (some .int) ∈ lw_all := zi6 0 rfl rfl
theorem iX11_bestGain : Cond.instanceMethod yX11_bestGain ∈ lw_all := zi5 238 rfl rfl
theorem eX11_bestGain : Cond.selects RX11 yX11_bestGain yX11_bestGain ∈ lw_all := zi5 239 rfl rfl
abbrev mX11_bestFilm : zMeth := (yX11_bestFilm, cX11_bestFilm, 2, (some .int))
theorem wX11_bestFilm : Cond.code yX11_bestFilm cX11_bestFilm 2 (some .int) ∈ lw_all := zi6 8 rfl rfl
theorem iX11_bestFilm : Cond.instanceMethod yX11_bestFilm ∈ lw_all := zi6 6 rfl rfl
theorem eX11_bestFilm : Cond.selects RX11 yX11_bestFilm yX11_bestFilm ∈ lw_all := zi6 7 rfl rfl
abbrev mX11_bestMove : zMeth := (yX11_bestMove, cX11_bestMove, 1, (some .int))
theorem wX11_bestMove : Cond.code yX11_bestMove cX11_bestMove 1 (some .int) ∈ lw_all := zi3 31 rfl rfl
theorem iX11_bestMove : Cond.instanceMethod yX11_bestMove ∈ lw_all := zi3 29 rfl rfl
theorem eX11_bestMove : Cond.selects RX11 yX11_bestMove yX11_bestMove ∈ lw_all := zi3 30 rfl rfl
abbrev mX11_total : zMeth := (yX11_total, cX11_total, 3, (some .int))
theorem wX11_total : Cond.code yX11_total cX11_total 3 (some .int) ∈ lw_all := zi6 27 rfl rfl
theorem iX11_total : Cond.instanceMethod yX11_total ∈ lw_all := zi6 25 rfl rfl
theorem eX11_total : Cond.selects RX11 yX11_total yX11_total ∈ lw_all := zi6 26 rfl rfl
abbrev mX11_closed : zMeth := (yX11_closed, cX11_closed, 3, (some .int))
theorem wX11_closed : Cond.code yX11_closed cX11_closed 3 (some .int) ∈ lw_all := zi6 34 rfl rfl
theorem iX11_closed : Cond.instanceMethod yX11_closed ∈ lw_all := zi6 32 rfl rfl
theorem eX11_closed : Cond.selects RX11 yX11_closed yX11_closed ∈ lw_all := zi6 33 rfl rfl
abbrev mX11_meanTakings : zMeth := (yX11_meanTakings, cX11_meanTakings, 1, (some .double))
theorem wX11_meanTakings : Cond.code yX11_meanTakings cX11_meanTakings 1 (some .double) ∈ lw_all := zi3 115 rfl rfl
theorem iX11_meanTakings : Cond.instanceMethod yX11_meanTakings ∈ lw_all := zi3 113 rfl rfl
theorem eX11_meanTakings : Cond.selects RX11 yX11_meanTakings yX11_meanTakings ∈ lw_all := zi3 114 rfl rfl
abbrev mX11_filled : zMeth := (yX11_filled, cX11_filled, 2, (some .float))
theorem wX11_filled : Cond.code yX11_filled cX11_filled 2 (some .float) ∈ lw_all := zi3 119 rfl rfl
theorem iX11_filled : Cond.instanceMethod yX11_filled ∈ lw_all := zi3 117 rfl rfl
theorem eX11_filled : Cond.selects RX11 yX11_filled yX11_filled ∈ lw_all := zi3 118 rfl rfl
abbrev mX11_book : zMeth := (yX11_book, cX11_book, 3, (some .int))
theorem wX11_book : Cond.code yX11_book cX11_book 3 (some .int) ∈ lw_all := zi6 46 rfl rfl
theorem iX11_book : Cond.instanceMethod yX11_book ∈ lw_all := zi6 44 rfl rfl
theorem eX11_book : Cond.selects RX11 yX11_book yX11_book ∈ lw_all := zi6 45 rfl rfl
abbrev mX11_split : zMeth := (yX11_split, cX11_split, 5, (some .int))
theorem wX11_split : Cond.code yX11_split cX11_split 5 (some .int) ∈ lw_all := zi6 63 rfl rfl
theorem iX11_split : Cond.instanceMethod yX11_split ∈ lw_all := zi6 61 rfl rfl
theorem eX11_split : Cond.selects RX11 yX11_split yX11_split ∈ lw_all := zi6 62 rfl rfl
abbrev mX11_takeBooking : zMeth := (yX11_takeBooking, cX11_takeBooking, 5, (some .int))
theorem wX11_takeBooking : Cond.code yX11_takeBooking cX11_takeBooking 5 (some .int) ∈ lw_all := zi6 50 rfl rfl
theorem iX11_takeBooking : Cond.instanceMethod yX11_takeBooking ∈ lw_all := zi6 49 rfl rfl
theorem eX11_takeBooking : Cond.selects RX11 yX11_takeBooking yX11_takeBooking ∈ lw_all := zs3 (q := (yX11_takeBooking, _)) 8 rfl rfl
abbrev mX11_empty : zMeth := (yX11_empty, cX11_empty, 3, (some .int))
theorem wX11_empty : Cond.code yX11_empty cX11_empty 3 (some .int) ∈ lw_all := zi6 71 rfl rfl
theorem iX11_empty : Cond.instanceMethod yX11_empty ∈ lw_all := zi6 69 rfl rfl
theorem eX11_empty : Cond.selects RX11 yX11_empty yX11_empty ∈ lw_all := zi6 70 rfl rfl
abbrev mX11_move : zMeth := (yX11_move, cX11_move, 5, (some .int))
theorem wX11_move : Cond.code yX11_move cX11_move 5 (some .int) ∈ lw_all := zi6 78 rfl rfl
theorem iX11_move : Cond.instanceMethod yX11_move ∈ lw_all := zi6 76 rfl rfl
theorem eX11_move : Cond.selects RX11 yX11_move yX11_move ∈ lw_all := zi6 77 rfl rfl
abbrev mX11_close : zMeth := (yX11_close, cX11_close, 2, (some .int))
theorem wX11_close : Cond.code yX11_close cX11_close 2 (some .int) ∈ lw_all := zi3 136 rfl rfl
theorem iX11_close : Cond.instanceMethod yX11_close ∈ lw_all := zi3 134 rfl rfl
theorem eX11_close : Cond.selects RX11 yX11_close yX11_close ∈ lw_all := zi3 135 rfl rfl
abbrev mX11_program : zMeth := (yX11_program, cX11_program, 3, (some .int))
theorem wX11_program : Cond.code yX11_program cX11_program 3 (some .int) ∈ lw_all := zi6 88 rfl rfl
theorem iX11_program : Cond.instanceMethod yX11_program ∈ lw_all := zi6 86 rfl rfl
theorem eX11_program : Cond.selects RX11 yX11_program yX11_program ∈ lw_all := zi6 87 rfl rfl
abbrev mX11_setHoldover : zMeth := (yX11_setHoldover, cX11_setHoldover, 4, (some .int))
theorem wX11_setHoldover : Cond.code yX11_setHoldover cX11_setHoldover 4 (some .int) ∈ lw_all := zi6 104 rfl rfl
theorem iX11_setHoldover : Cond.instanceMethod yX11_setHoldover ∈ lw_all := zi6 102 rfl rfl
theorem eX11_setHoldover : Cond.selects RX11 yX11_setHoldover yX11_setHoldover ∈ lw_all := zi6 103 rfl rfl
abbrev mX11_setRent : zMeth := (yX11_setRent, cX11_setRent, 4, (some .int))
theorem wX11_setRent : Cond.code yX11_setRent cX11_setRent 4 (some .int) ∈ lw_all := zi6 112 rfl rfl
theorem iX11_setRent : Cond.instanceMethod yX11_setRent ∈ lw_all := zi6 110 rfl rfl
theorem eX11_setRent : Cond.selects RX11 yX11_setRent yX11_setRent ∈ lw_all := zi6 111 rfl rfl
abbrev mX11_setFee : zMeth := (yX11_setFee, cX11_setFee, 3, (some .int))
theorem wX11_setFee : Cond.code yX11_setFee cX11_setFee 3 (some .int) ∈ lw_all := zi6 120 rfl rfl
theorem iX11_setFee : Cond.instanceMethod yX11_setFee ∈ lw_all := zi6 118 rfl rfl
theorem eX11_setFee : Cond.selects RX11 yX11_setFee yX11_setFee ∈ lw_all := zi6 119 rfl rfl
abbrev mX11_format : zMeth := (yX11_format, cX11_format, 3, (some .int))
theorem wX11_format : Cond.code yX11_format cX11_format 3 (some .int) ∈ lw_all := zi6 128 rfl rfl
theorem iX11_format : Cond.instanceMethod yX11_format ∈ lw_all := zi6 126 rfl rfl
theorem eX11_format : Cond.selects RX11 yX11_format yX11_format ∈ lw_all := zi6 127 rfl rfl
abbrev mX11_appendFilm : zMeth := (yX11_appendFilm, cX11_appendFilm, 2, none)
theorem wX11_appendFilm : Cond.code yX11_appendFilm cX11_appendFilm 2 none ∈ lw_all := zi7 104 rfl rfl
theorem iX11_appendFilm : Cond.instanceMethod yX11_appendFilm ∈ lw_all := zi7 103 rfl rfl
theorem eX11_appendFilm : Cond.selects RX11 yX11_appendFilm yX11_appendFilm ∈ lw_all := zs3 (q := (yX11_appendFilm, _)) 9 rfl rfl
abbrev mX11_formattedByte : zMeth := (yX11_formattedByte, cX11_formattedByte, 2, (some .int))
theorem wX11_formattedByte : Cond.code yX11_formattedByte cX11_formattedByte 2 (some .int) ∈ lw_all := zi4 34 rfl rfl
theorem iX11_formattedByte : Cond.instanceMethod yX11_formattedByte ∈ lw_all := zi4 32 rfl rfl
theorem eX11_formattedByte : Cond.selects RX11 yX11_formattedByte yX11_formattedByte ∈ lw_all := zi4 33 rfl rfl
abbrev mX11_undoCount : zMeth := (yX11_undoCount, cX11_undoCount, 1, (some .int))
theorem wX11_undoCount : Cond.code yX11_undoCount cX11_undoCount 1 (some .int) ∈ lw_all := zi4 73 rfl rfl
theorem iX11_undoCount : Cond.instanceMethod yX11_undoCount ∈ lw_all := zi4 71 rfl rfl
theorem eX11_undoCount : Cond.selects RX11 yX11_undoCount yX11_undoCount ∈ lw_all := zi4 72 rfl rfl
abbrev mX11_undo : zMeth := (yX11_undo, cX11_undo, 1, (some .int))
theorem wX11_undo : Cond.code yX11_undo cX11_undo 1 (some .int) ∈ lw_all := zi4 77 rfl rfl
theorem iX11_undo : Cond.instanceMethod yX11_undo ∈ lw_all := zi4 75 rfl rfl
theorem eX11_undo : Cond.selects RX11 yX11_undo yX11_undo ∈ lw_all := zi4 76 rfl rfl
abbrev mX11_saveSnapshot : zMeth := (yX11_saveSnapshot, cX11_saveSnapshot, 1, none)
theorem wX11_saveSnapshot : Cond.code yX11_saveSnapshot cX11_saveSnapshot 1 none ∈ lw_all := zi4 85 rfl rfl
theorem iX11_saveSnapshot : Cond.instanceMethod yX11_saveSnapshot ∈ lw_all := zi4 83 rfl rfl
theorem eX11_saveSnapshot : Cond.selects RX11 yX11_saveSnapshot yX11_saveSnapshot ∈ lw_all := zi4 84 rfl rfl
abbrev mX11_restoreSnapshot : zMeth := (yX11_restoreSnapshot, cX11_restoreSnapshot, 1, (some .boolean))
theorem wX11_restoreSnapshot : Cond.code yX11_restoreSnapshot cX11_restoreSnapshot 1 (some .boolean) ∈ lw_all := zi4 90 rfl rfl
theorem iX11_restoreSnapshot : Cond.instanceMethod yX11_restoreSnapshot ∈ lw_all := zi4 88 rfl rfl
theorem eX11_restoreSnapshot : Cond.selects RX11 yX11_restoreSnapshot yX11_restoreSnapshot ∈ lw_all := zi4 89 rfl rfl
abbrev mX11_checkHouse : zMeth := (yX11_checkHouse, cX11_checkHouse, 2, none)
theorem wX11_checkHouse : Cond.code yX11_checkHouse cX11_checkHouse 2 none ∈ lw_all := zi5 103 rfl rfl
theorem iX11_checkHouse : Cond.instanceMethod yX11_checkHouse ∈ lw_all := zi5 102 rfl rfl
theorem eX11_checkHouse : Cond.selects RX11 yX11_checkHouse yX11_checkHouse ∈ lw_all := zs3 (q := (yX11_checkHouse, _)) 1 rfl rfl
abbrev mX11_checkScreen : zMeth := (yX11_checkScreen, cX11_checkScreen, 2, none)
theorem wX11_checkScreen : Cond.code yX11_checkScreen cX11_checkScreen 2 none ∈ lw_all := zi5 121 rfl rfl
theorem iX11_checkScreen : Cond.instanceMethod yX11_checkScreen ∈ lw_all := zi5 120 rfl rfl
theorem eX11_checkScreen : Cond.selects RX11 yX11_checkScreen yX11_checkScreen ∈ lw_all := zs3 (q := (yX11_checkScreen, _)) 2 rfl rfl
abbrev mX11_checkFilm : zMeth := (yX11_checkFilm, cX11_checkFilm, 2, none)
theorem wX11_checkFilm : Cond.code yX11_checkFilm cX11_checkFilm 2 none ∈ lw_all := zi5 134 rfl rfl
theorem iX11_checkFilm : Cond.instanceMethod yX11_checkFilm ∈ lw_all := zi5 133 rfl rfl
theorem eX11_checkFilm : Cond.selects RX11 yX11_checkFilm yX11_checkFilm ∈ lw_all := zs3 (q := (yX11_checkFilm, _)) 3 rfl rfl
abbrev mX11_checkPlace : zMeth := (yX11_checkPlace, cX11_checkPlace, 2, none)
theorem wX11_checkPlace : Cond.code yX11_checkPlace cX11_checkPlace 2 none ∈ lw_all := zi5 159 rfl rfl
theorem iX11_checkPlace : Cond.instanceMethod yX11_checkPlace ∈ lw_all := zi5 158 rfl rfl
theorem eX11_checkPlace : Cond.selects RX11 yX11_checkPlace yX11_checkPlace ∈ lw_all := zs3 (q := (yX11_checkPlace, _)) 4 rfl rfl
abbrev mX11_checkDay : zMeth := (yX11_checkDay, cX11_checkDay, 2, none)
theorem wX11_checkDay : Cond.code yX11_checkDay cX11_checkDay 2 none ∈ lw_all := zi5 172 rfl rfl
theorem iX11_checkDay : Cond.instanceMethod yX11_checkDay ∈ lw_all := zi5 171 rfl rfl
theorem eX11_checkDay : Cond.selects RX11 yX11_checkDay yX11_checkDay ∈ lw_all := zs3 (q := (yX11_checkDay, _)) 5 rfl rfl
abbrev mX11_copyRow : zMeth := (yX11_copyRow, cX11_copyRow, 2, none)
theorem wX11_copyRow : Cond.code yX11_copyRow cX11_copyRow 2 none ∈ lw_all := zi3 147 rfl rfl
theorem sX11_copyRow : Cond.static yX11_copyRow ∈ lw_all := zi3 146 rfl rfl
abbrev mX12_init : zMeth := (yX12_init, cX12_init, 1, none)
theorem wX12_init : Cond.code yX12_init cX12_init 1 none ∈ lw_all := zi7 190 rfl rfl
theorem iX12_init : Cond.instanceMethod yX12_init ∈ lw_all := zi7 189 rfl rfl
abbrev mX12_thrown : zMeth := (yX12_thrown, cX12_thrown, 1, (some .int))
theorem wX12_thrown : Cond.code yX12_thrown cX12_thrown 1 (some .int) ∈ lw_all := zi8 68 rfl rfl
theorem iX12_thrown : Cond.instanceMethod yX12_thrown ∈ lw_all := zi8 66 rfl rfl
theorem eX12_thrown : Cond.selects RX12 yX12_thrown yX12_thrown ∈ lw_all := zi8 67 rfl rfl
abbrev mX12_raise : zMeth := (yX12_raise, cX12_raise, 2, (some .int))
theorem wX12_raise : Cond.code yX12_raise cX12_raise 2 (some .int) ∈ lw_all := zi8 91 rfl rfl
theorem iX12_raise : Cond.instanceMethod yX12_raise ∈ lw_all := zi8 90 rfl rfl
theorem eX12_raise : Cond.selects RX12 yX12_raise yX12_raise ∈ lw_all := zs4 (q := (yX12_raise, _)) 6 rfl rfl
abbrev mX12_inRange : zMeth := (yX12_inRange, cX12_inRange, 3, (some .boolean))
theorem wX12_inRange : Cond.code yX12_inRange cX12_inRange 3 (some .boolean) ∈ lw_all := zi8 106 rfl rfl
theorem sX12_inRange : Cond.static yX12_inRange ∈ lw_all := zi8 105 rfl rfl
abbrev mX12_clear : zMeth := (yX12_clear, cX12_clear, 2, none)
theorem wX12_clear : Cond.code yX12_clear cX12_clear 2 none ∈ lw_all := zi7 205 rfl rfl
theorem sX12_clear : Cond.static yX12_clear ∈ lw_all := zi7 204 rfl rfl
abbrev mX12_houseAt : zMeth := (yX12_houseAt, cX12_houseAt, 2, (some .int))
theorem wX12_houseAt : Cond.code yX12_houseAt cX12_houseAt 2 (some .int) ∈ lw_all := zi8 161 rfl rfl
theorem sX12_houseAt : Cond.static yX12_houseAt ∈ lw_all := zi8 160 rfl rfl
abbrev mX12_screenAt : zMeth := (yX12_screenAt, cX12_screenAt, 2, (some .int))
theorem wX12_screenAt : Cond.code yX12_screenAt cX12_screenAt 2 (some .int) ∈ lw_all := zi8 87 rfl rfl
theorem sX12_screenAt : Cond.static yX12_screenAt ∈ lw_all := zi8 86 rfl rfl
abbrev mX12_filmAt : zMeth := (yX12_filmAt, cX12_filmAt, 2, (some .int))
theorem wX12_filmAt : Cond.code yX12_filmAt cX12_filmAt 2 (some .int) ∈ lw_all := zi8 129 rfl rfl
theorem sX12_filmAt : Cond.static yX12_filmAt ∈ lw_all := zi8 128 rfl rfl
abbrev mX12_printsAt : zMeth := (yX12_printsAt, cX12_printsAt, 2, (some .int))
theorem wX12_printsAt : Cond.code yX12_printsAt cX12_printsAt 2 (some .int) ∈ lw_all := zi9 16 rfl rfl
theorem sX12_printsAt : Cond.static yX12_printsAt ∈ lw_all := zi9 15 rfl rfl
abbrev mX12_runAt : zMeth := (yX12_runAt, cX12_runAt, 2, (some .int))
theorem wX12_runAt : Cond.code yX12_runAt cX12_runAt 2 (some .int) ∈ lw_all := zi8 209 rfl rfl
theorem sX12_runAt : Cond.static yX12_runAt ∈ lw_all := zi8 208 rfl rfl
abbrev mX12_houses : zMeth := (yX12_houses, cX12_houses, 1, (some .int))
theorem wX12_houses : Cond.code yX12_houses cX12_houses 1 (some .int) ∈ lw_all := zi8 103 rfl rfl
theorem iX12_houses : Cond.instanceMethod yX12_houses ∈ lw_all := zi8 102 rfl rfl
theorem eX12_houses : Cond.selects RX12 yX12_houses yX12_houses ∈ lw_all := zs4 (q := (yX12_houses, _)) 8 rfl rfl
abbrev mX12_screens : zMeth := (yX12_screens, cX12_screens, 1, (some .int))
theorem wX12_screens : Cond.code yX12_screens cX12_screens 1 (some .int) ∈ lw_all := zi8 80 rfl rfl
theorem iX12_screens : Cond.instanceMethod yX12_screens ∈ lw_all := zi8 79 rfl rfl
theorem eX12_screens : Cond.selects RX12 yX12_screens yX12_screens ∈ lw_all := zs4 (q := (yX12_screens, _)) 4 rfl rfl
abbrev mX12_films : zMeth := (yX12_films, cX12_films, 1, (some .int))
theorem wX12_films : Cond.code yX12_films cX12_films 1 (some .int) ∈ lw_all := zi8 114 rfl rfl
theorem iX12_films : Cond.instanceMethod yX12_films ∈ lw_all := zi8 113 rfl rfl
theorem eX12_films : Cond.selects RX12 yX12_films yX12_films ∈ lw_all := zs4 (q := (yX12_films, _)) 10 rfl rfl
abbrev mX12_ofHouse : zMeth := (yX12_ofHouse, cX12_ofHouse, 3, (some .int))
theorem wX12_ofHouse : Cond.code yX12_ofHouse cX12_ofHouse 3 (some .int) ∈ lw_all := zi8 158 rfl rfl
theorem iX12_ofHouse : Cond.instanceMethod yX12_ofHouse ∈ lw_all := zi8 157 rfl rfl
theorem eX12_ofHouse : Cond.selects RX12 yX12_ofHouse yX12_ofHouse ∈ lw_all := zs5 (q := (yX12_ofHouse, _)) 4 rfl rfl
abbrev mX12_of : zMeth := (yX12_of, cX12_of, 3, (some .int))
theorem wX12_of : Cond.code yX12_of cX12_of 3 (some .int) ∈ lw_all := zi8 84 rfl rfl
theorem iX12_of : Cond.instanceMethod yX12_of ∈ lw_all := zi8 83 rfl rfl
theorem eX12_of : Cond.selects RX12 yX12_of yX12_of ∈ lw_all := zs4 (q := (yX12_of, _)) 5 rfl rfl
abbrev mX12_ofFilm : zMeth := (yX12_ofFilm, cX12_ofFilm, 3, (some .int))
theorem wX12_ofFilm : Cond.code yX12_ofFilm cX12_ofFilm 3 (some .int) ∈ lw_all := zi8 126 rfl rfl
theorem iX12_ofFilm : Cond.instanceMethod yX12_ofFilm ∈ lw_all := zi8 125 rfl rfl
theorem eX12_ofFilm : Cond.selects RX12 yX12_ofFilm yX12_ofFilm ∈ lw_all := zs4 (q := (yX12_ofFilm, _)) 13 rfl rfl
abbrev mX12_printsOf : zMeth := (yX12_printsOf, cX12_printsOf, 3, (some .int))
theorem wX12_printsOf : Cond.code yX12_printsOf cX12_printsOf 3 (some .int) ∈ lw_all := zi9 13 rfl rfl
theorem iX12_printsOf : Cond.instanceMethod yX12_printsOf ∈ lw_all := zi9 12 rfl rfl
theorem eX12_printsOf : Cond.selects RX12 yX12_printsOf yX12_printsOf ∈ lw_all := zs6 (q := (yX12_printsOf, _)) 6 rfl rfl
abbrev mX12_isHouse : zMeth := (yX12_isHouse, cX12_isHouse, 2, (some .boolean))
theorem wX12_isHouse : Cond.code yX12_isHouse cX12_isHouse 2 (some .boolean) ∈ lw_all := zi8 99 rfl rfl
theorem iX12_isHouse : Cond.instanceMethod yX12_isHouse ∈ lw_all := zi8 98 rfl rfl
theorem eX12_isHouse : Cond.selects RX12 yX12_isHouse yX12_isHouse ∈ lw_all := zs4 (q := (yX12_isHouse, _)) 7 rfl rfl
abbrev mX12_isScreen : zMeth := (yX12_isScreen, cX12_isScreen, 2, (some .boolean))
theorem wX12_isScreen : Cond.code yX12_isScreen cX12_isScreen 2 (some .boolean) ∈ lw_all := zi8 221 rfl rfl
theorem iX12_isScreen : Cond.instanceMethod yX12_isScreen ∈ lw_all := zi8 220 rfl rfl
theorem eX12_isScreen : Cond.selects RX12 yX12_isScreen yX12_isScreen ∈ lw_all := zs6 (q := (yX12_isScreen, _)) 1 rfl rfl
abbrev mX12_isFilm : zMeth := (yX12_isFilm, cX12_isFilm, 2, (some .boolean))
theorem wX12_isFilm : Cond.code yX12_isFilm cX12_isFilm 2 (some .boolean) ∈ lw_all := zi8 237 rfl rfl
theorem iX12_isFilm : Cond.instanceMethod yX12_isFilm ∈ lw_all := zi8 236 rfl rfl
theorem eX12_isFilm : Cond.selects RX12 yX12_isFilm yX12_isFilm ∈ lw_all := zs6 (q := (yX12_isFilm, _)) 4 rfl rfl
abbrev mX12_isPlace : zMeth := (yX12_isPlace, cX12_isPlace, 2, (some .boolean))
theorem wX12_isPlace : Cond.code yX12_isPlace cX12_isPlace 2 (some .boolean) ∈ lw_all := zi9 9 rfl rfl
theorem iX12_isPlace : Cond.instanceMethod yX12_isPlace ∈ lw_all := zi9 8 rfl rfl
theorem eX12_isPlace : Cond.selects RX12 yX12_isPlace yX12_isPlace ∈ lw_all := zs6 (q := (yX12_isPlace, _)) 5 rfl rfl
abbrev mX12_isDay : zMeth := (yX12_isDay, cX12_isDay, 1, (some .boolean))
theorem wX12_isDay : Cond.code yX12_isDay cX12_isDay 1 (some .boolean) ∈ lw_all := zi9 23 rfl rfl
theorem sX12_isDay : Cond.static yX12_isDay ∈ lw_all := zi9 22 rfl rfl
abbrev mX12_capacityOf : zMeth := (yX12_capacityOf, cX12_capacityOf, 2, (some .int))
theorem wX12_capacityOf : Cond.code yX12_capacityOf cX12_capacityOf 2 (some .int) ∈ lw_all := zi8 153 rfl rfl
theorem iX12_capacityOf : Cond.instanceMethod yX12_capacityOf ∈ lw_all := zi8 152 rfl rfl
theorem eX12_capacityOf : Cond.selects RX12 yX12_capacityOf yX12_capacityOf ∈ lw_all := zs5 (q := (yX12_capacityOf, _)) 3 rfl rfl
abbrev mX12_priceAt : zMeth := (yX12_priceAt, cX12_priceAt, 2, (some .int))
theorem wX12_priceAt : Cond.code yX12_priceAt cX12_priceAt 2 (some .int) ∈ lw_all := zi8 181 rfl rfl
theorem iX12_priceAt : Cond.instanceMethod yX12_priceAt ∈ lw_all := zi8 180 rfl rfl
theorem eX12_priceAt : Cond.selects RX12 yX12_priceAt yX12_priceAt ∈ lw_all := zs5 (q := (yX12_priceAt, _)) 9 rfl rfl
abbrev mX12_book : zMeth := (yX12_book, cX12_book, 6, none)
theorem wX12_book : Cond.code yX12_book cX12_book 6 none ∈ lw_all := zi9 58 rfl rfl
theorem sX12_book : Cond.static yX12_book ∈ lw_all := zi9 57 rfl rfl
abbrev mX12_isSplit : zMeth := (yX12_isSplit, cX12_isSplit, 2, (some .boolean))
theorem wX12_isSplit : Cond.code yX12_isSplit cX12_isSplit 2 (some .boolean) ∈ lw_all := zi8 149 rfl rfl
theorem iX12_isSplit : Cond.instanceMethod yX12_isSplit ∈ lw_all := zi8 148 rfl rfl
theorem eX12_isSplit : Cond.selects RX12 yX12_isSplit yX12_isSplit ∈ lw_all := zs5 (q := (yX12_isSplit, _)) 2 rfl rfl
abbrev mX12_shownOn : zMeth := (yX12_shownOn, cX12_shownOn, 3, (some .int))
theorem wX12_shownOn : Cond.code yX12_shownOn cX12_shownOn 3 (some .int) ∈ lw_all := zi8 145 rfl rfl
theorem iX12_shownOn : Cond.instanceMethod yX12_shownOn ∈ lw_all := zi8 144 rfl rfl
theorem eX12_shownOn : Cond.selects RX12 yX12_shownOn yX12_shownOn ∈ lw_all := zs5 (q := (yX12_shownOn, _)) 1 rfl rfl
abbrev mX12_shows : zMeth := (yX12_shows, cX12_shows, 5, (some .boolean))
theorem wX12_shows : Cond.code yX12_shows cX12_shows 5 (some .boolean) ∈ lw_all := zi8 141 rfl rfl
theorem iX12_shows : Cond.instanceMethod yX12_shows ∈ lw_all := zi8 140 rfl rfl
theorem eX12_shows : Cond.selects RX12 yX12_shows yX12_shows ∈ lw_all := zs5 (q := (yX12_shows, _)) 0 rfl rfl
abbrev mX12_showing : zMeth := (yX12_showing, cX12_showing, 6, (some .int))
theorem wX12_showing : Cond.code yX12_showing cX12_showing 6 (some .int) ∈ lw_all := zi8 201 rfl rfl
theorem iX12_showing : Cond.instanceMethod yX12_showing ∈ lw_all := zi8 200 rfl rfl
theorem eX12_showing : Cond.selects RX12 yX12_showing yX12_showing ∈ lw_all := zs5 (q := (yX12_showing, _)) 14 rfl rfl
abbrev mX12_needed : zMeth := (yX12_needed, cX12_needed, 5, (some .int))
theorem wX12_needed : Cond.code yX12_needed cX12_needed 5 (some .int) ∈ lw_all := zi8 197 rfl rfl
theorem iX12_needed : Cond.instanceMethod yX12_needed ∈ lw_all := zi8 196 rfl rfl
theorem eX12_needed : Cond.selects RX12 yX12_needed yX12_needed ∈ lw_all := zs5 (q := (yX12_needed, _)) 13 rfl rfl
abbrev mX12_isShown : zMeth := (yX12_isShown, cX12_isShown, 3, (some .boolean))
theorem wX12_isShown : Cond.code yX12_isShown cX12_isShown 3 (some .boolean) ∈ lw_all := zi8 193 rfl rfl
theorem iX12_isShown : Cond.instanceMethod yX12_isShown ∈ lw_all := zi8 192 rfl rfl
theorem eX12_isShown : Cond.selects RX12 yX12_isShown yX12_isShown ∈ lw_all := zs5 (q := (yX12_isShown, _)) 12 rfl rfl
abbrev mX12_ageOf : zMeth := (yX12_ageOf, cX12_ageOf, 2, (some .int))
theorem wX12_ageOf : Cond.code yX12_ageOf cX12_ageOf 2 (some .int) ∈ lw_all := zi8 133 rfl rfl
theorem iX12_ageOf : Cond.instanceMethod yX12_ageOf ∈ lw_all := zi8 132 rfl rfl
theorem eX12_ageOf : Cond.selects RX12 yX12_ageOf yX12_ageOf ∈ lw_all := zs4 (q := (yX12_ageOf, _)) 14 rfl rfl
abbrev mX12_demandOf : zMeth := (yX12_demandOf, cX12_demandOf, 4, (some .int))
theorem wX12_demandOf : Cond.code yX12_demandOf cX12_demandOf 4 (some .int) ∈ lw_all := zi8 122 rfl rfl
theorem iX12_demandOf : Cond.instanceMethod yX12_demandOf ∈ lw_all := zi8 121 rfl rfl
theorem eX12_demandOf : Cond.selects RX12 yX12_demandOf yX12_demandOf ∈ lw_all := zs4 (q := (yX12_demandOf, _)) 12 rfl rfl
abbrev mX12_largest : zMeth := (yX12_largest, cX12_largest, 7, (some .int))
theorem wX12_largest : Cond.code yX12_largest cX12_largest 7 (some .int) ∈ lw_all := zi8 137 rfl rfl
theorem iX12_largest : Cond.instanceMethod yX12_largest ∈ lw_all := zi8 136 rfl rfl
theorem eX12_largest : Cond.selects RX12 yX12_largest yX12_largest ∈ lw_all := zs4 (q := (yX12_largest, _)) 15 rfl rfl
abbrev mX12_layDay : zMeth := (yX12_layDay, cX12_layDay, 6, none)
theorem wX12_layDay : Cond.code yX12_layDay cX12_layDay 6 none ∈ lw_all := zi8 118 rfl rfl
theorem iX12_layDay : Cond.instanceMethod yX12_layDay ∈ lw_all := zi8 117 rfl rfl
theorem eX12_layDay : Cond.selects RX12 yX12_layDay yX12_layDay ∈ lw_all := zs4 (q := (yX12_layDay, _)) 11 rfl rfl
abbrev mX12_layWeek : zMeth := (yX12_layWeek, cX12_layWeek, 4, none)
theorem wX12_layWeek : Cond.code yX12_layWeek cX12_layWeek 4 none ∈ lw_all := zi8 110 rfl rfl
theorem iX12_layWeek : Cond.instanceMethod yX12_layWeek ∈ lw_all := zi8 109 rfl rfl
theorem eX12_layWeek : Cond.selects RX12 yX12_layWeek yX12_layWeek ∈ lw_all := zs4 (q := (yX12_layWeek, _)) 9 rfl rfl
abbrev mX12_guestsOf : zMeth := (yX12_guestsOf, cX12_guestsOf, 4, (some .int))
theorem wX12_guestsOf : Cond.code yX12_guestsOf cX12_guestsOf 4 (some .int) ∈ lw_all := zi8 229 rfl rfl
theorem iX12_guestsOf : Cond.instanceMethod yX12_guestsOf ∈ lw_all := zi8 228 rfl rfl
theorem eX12_guestsOf : Cond.selects RX12 yX12_guestsOf yX12_guestsOf ∈ lw_all := zs6 (q := (yX12_guestsOf, _)) 3 rfl rfl
abbrev mX12_takingsOf : zMeth := (yX12_takingsOf, cX12_takingsOf, 2, (some .int))
theorem wX12_takingsOf : Cond.code yX12_takingsOf cX12_takingsOf 2 (some .int) ∈ lw_all := zi8 225 rfl rfl
theorem iX12_takingsOf : Cond.instanceMethod yX12_takingsOf ∈ lw_all := zi8 224 rfl rfl
theorem eX12_takingsOf : Cond.selects RX12 yX12_takingsOf yX12_takingsOf ∈ lw_all := zs6 (q := (yX12_takingsOf, _)) 2 rfl rfl
abbrev mX12_takingsBy : zMeth := (yX12_takingsBy, cX12_takingsBy, 5, (some .int))
theorem wX12_takingsBy : Cond.code yX12_takingsBy cX12_takingsBy 5 (some .int) ∈ lw_all := zi8 177 rfl rfl
theorem iX12_takingsBy : Cond.instanceMethod yX12_takingsBy ∈ lw_all := zi8 176 rfl rfl
theorem eX12_takingsBy : Cond.selects RX12 yX12_takingsBy yX12_takingsBy ∈ lw_all := zs5 (q := (yX12_takingsBy, _)) 8 rfl rfl
abbrev mX12_takingsIn : zMeth := (yX12_takingsIn, cX12_takingsIn, 5, (some .int))
theorem wX12_takingsIn : Cond.code yX12_takingsIn cX12_takingsIn 5 (some .int) ∈ lw_all := zi8 173 rfl rfl
theorem iX12_takingsIn : Cond.instanceMethod yX12_takingsIn ∈ lw_all := zi8 172 rfl rfl
theorem eX12_takingsIn : Cond.selects RX12 yX12_takingsIn yX12_takingsIn ∈ lw_all := zs5 (q := (yX12_takingsIn, _)) 7 rfl rfl
abbrev mX12_shareBy : zMeth := (yX12_shareBy, cX12_shareBy, 5, (some .int))
theorem wX12_shareBy : Cond.code yX12_shareBy cX12_shareBy 5 (some .int) ∈ lw_all := zi8 206 rfl rfl
theorem iX12_shareBy : Cond.instanceMethod yX12_shareBy ∈ lw_all := zi8 205 rfl rfl
theorem eX12_shareBy : Cond.selects RX12 yX12_shareBy yX12_shareBy ∈ lw_all := zs5 (q := (yX12_shareBy, _)) 15 rfl rfl
abbrev mX12_shareOf : zMeth := (yX12_shareOf, cX12_shareOf, 3, (some .int))
theorem wX12_shareOf : Cond.code yX12_shareOf cX12_shareOf 3 (some .int) ∈ lw_all := zi8 189 rfl rfl
theorem iX12_shareOf : Cond.instanceMethod yX12_shareOf ∈ lw_all := zi8 188 rfl rfl
theorem eX12_shareOf : Cond.selects RX12 yX12_shareOf yX12_shareOf ∈ lw_all := zs5 (q := (yX12_shareOf, _)) 11 rfl rfl
abbrev mX12_sharesIn : zMeth := (yX12_sharesIn, cX12_sharesIn, 4, (some .int))
theorem wX12_sharesIn : Cond.code yX12_sharesIn cX12_sharesIn 4 (some .int) ∈ lw_all := zi8 185 rfl rfl
theorem iX12_sharesIn : Cond.instanceMethod yX12_sharesIn ∈ lw_all := zi8 184 rfl rfl
theorem eX12_sharesIn : Cond.selects RX12 yX12_sharesIn yX12_sharesIn ∈ lw_all := zs5 (q := (yX12_sharesIn, _)) 10 rfl rfl
abbrev mX12_rentsIn : zMeth := (yX12_rentsIn, cX12_rentsIn, 4, (some .int))
theorem wX12_rentsIn : Cond.code yX12_rentsIn cX12_rentsIn 4 (some .int) ∈ lw_all := zi8 213 rfl rfl
theorem iX12_rentsIn : Cond.instanceMethod yX12_rentsIn ∈ lw_all := zi8 212 rfl rfl
theorem eX12_rentsIn : Cond.selects RX12 yX12_rentsIn yX12_rentsIn ∈ lw_all := zs6 (q := (yX12_rentsIn, _)) 0 rfl rfl
abbrev mX12_daysOf : zMeth := (yX12_daysOf, cX12_daysOf, 5, (some .int))
theorem wX12_daysOf : Cond.code yX12_daysOf cX12_daysOf 5 (some .int) ∈ lw_all := zi9 47 rfl rfl
theorem iX12_daysOf : Cond.instanceMethod yX12_daysOf ∈ lw_all := zi9 46 rfl rfl
theorem eX12_daysOf : Cond.selects RX12 yX12_daysOf yX12_daysOf ∈ lw_all := zs6 (q := (yX12_daysOf, _)) 8 rfl rfl
abbrev mX12_isHolding : zMeth := (yX12_isHolding, cX12_isHolding, 4, (some .boolean))
theorem wX12_isHolding : Cond.code yX12_isHolding cX12_isHolding 4 (some .boolean) ∈ lw_all := zi9 43 rfl rfl
theorem iX12_isHolding : Cond.instanceMethod yX12_isHolding ∈ lw_all := zi9 42 rfl rfl
theorem eX12_isHolding : Cond.selects RX12 yX12_isHolding yX12_isHolding ∈ lw_all := zs6 (q := (yX12_isHolding, _)) 7 rfl rfl
abbrev mX12_layRoster : zMeth := (yX12_layRoster, cX12_layRoster, 3, none)
theorem wX12_layRoster : Cond.code yX12_layRoster cX12_layRoster 3 none ∈ lw_all := zi8 169 rfl rfl
theorem iX12_layRoster : Cond.instanceMethod yX12_layRoster ∈ lw_all := zi8 168 rfl rfl
theorem eX12_layRoster : Cond.selects RX12 yX12_layRoster yX12_layRoster ∈ lw_all := zs5 (q := (yX12_layRoster, _)) 6 rfl rfl
abbrev mX12_gainOf : zMeth := (yX12_gainOf, cX12_gainOf, 6, (some .int))
theorem wX12_gainOf : Cond.code yX12_gainOf cX12_gainOf 6 (some .int) ∈ lw_all := zi9 89 rfl rfl
theorem iX12_gainOf : Cond.instanceMethod yX12_gainOf ∈ lw_all := zi9 88 rfl rfl
theorem eX12_gainOf : Cond.selects RX12 yX12_gainOf yX12_gainOf ∈ lw_all := zs6 (q := (yX12_gainOf, _)) 14 rfl rfl
abbrev mX12_triedGain : zMeth := (yX12_triedGain, cX12_triedGain, 5, (some .int))
theorem wX12_triedGain : Cond.code yX12_triedGain cX12_triedGain 5 (some .int) ∈ lw_all := zi9 85 rfl rfl
theorem iX12_triedGain : Cond.instanceMethod yX12_triedGain ∈ lw_all := zi9 84 rfl rfl
theorem eX12_triedGain : Cond.selects RX12 yX12_triedGain yX12_triedGain ∈ lw_all := zs6 (q := (yX12_triedGain, _)) 13 rfl rfl
abbrev mX12_isHeld : zMeth := (yX12_isHeld, cX12_isHeld, 2, (some .boolean))
theorem wX12_isHeld : Cond.code yX12_isHeld cX12_isHeld 2 (some .boolean) ∈ lw_all := zi9 55 rfl rfl
theorem iX12_isHeld : Cond.instanceMethod yX12_isHeld ∈ lw_all := zi9 54 rfl rfl
theorem eX12_isHeld : Cond.selects RX12 yX12_isHeld yX12_isHeld ∈ lw_all := zs6 (q := (yX12_isHeld, _)) 9 rfl rfl
abbrev mX12_nextTried : zMeth := (yX12_nextTried, cX12_nextTried, 2, (some .boolean))
theorem wX12_nextTried : Cond.code yX12_nextTried cX12_nextTried 2 (some .boolean) ∈ lw_all := zi9 93 rfl rfl
theorem iX12_nextTried : Cond.instanceMethod yX12_nextTried ∈ lw_all := zi9 92 rfl rfl
theorem eX12_nextTried : Cond.selects RX12 yX12_nextTried yX12_nextTried ∈ lw_all := zs6 (q := (yX12_nextTried, _)) 15 rfl rfl
abbrev mX12_layBest : zMeth := (yX12_layBest, cX12_layBest, 5, none)
theorem wX12_layBest : Cond.code yX12_layBest cX12_layBest 5 none ∈ lw_all := zi9 81 rfl rfl
theorem iX12_layBest : Cond.instanceMethod yX12_layBest ∈ lw_all := zi9 80 rfl rfl
theorem eX12_layBest : Cond.selects RX12 yX12_layBest yX12_layBest ∈ lw_all := zs6 (q := (yX12_layBest, _)) 12 rfl rfl
abbrev mX12_gainIn : zMeth := (yX12_gainIn, cX12_gainIn, 2, (some .int))
theorem wX12_gainIn : Cond.code yX12_gainIn cX12_gainIn 2 (some .int) ∈ lw_all := zi9 77 rfl rfl
theorem iX12_gainIn : Cond.instanceMethod yX12_gainIn ∈ lw_all := zi9 76 rfl rfl
theorem eX12_gainIn : Cond.selects RX12 yX12_gainIn yX12_gainIn ∈ lw_all := zs6 (q := (yX12_gainIn, _)) 11 rfl rfl
abbrev mX12_heldScreens : zMeth := (yX12_heldScreens, cX12_heldScreens, 5, (some .int))
theorem wX12_heldScreens : Cond.code yX12_heldScreens cX12_heldScreens 5 (some .int) ∈ lw_all := zi9 109 rfl rfl
theorem iX12_heldScreens : Cond.instanceMethod yX12_heldScreens ∈ lw_all := zi9 108 rfl rfl
theorem eX12_heldScreens : Cond.selects RX12 yX12_heldScreens yX12_heldScreens ∈ lw_all := zs7 (q := (yX12_heldScreens, _)) 1 rfl rfl
abbrev mX12_canMove : zMeth := (yX12_canMove, cX12_canMove, 5, (some .boolean))
theorem wX12_canMove : Cond.code yX12_canMove cX12_canMove 5 (some .boolean) ∈ lw_all := zi9 105 rfl rfl
theorem iX12_canMove : Cond.instanceMethod yX12_canMove ∈ lw_all := zi9 104 rfl rfl
theorem eX12_canMove : Cond.selects RX12 yX12_canMove yX12_canMove ∈ lw_all := zs7 (q := (yX12_canMove, _)) 0 rfl rfl
abbrev mX12_moreBy : zMeth := (yX12_moreBy, cX12_moreBy, 5, (some .int))
theorem wX12_moreBy : Cond.code yX12_moreBy cX12_moreBy 5 (some .int) ∈ lw_all := zi9 113 rfl rfl
theorem iX12_moreBy : Cond.instanceMethod yX12_moreBy ∈ lw_all := zi9 112 rfl rfl
theorem eX12_moreBy : Cond.selects RX12 yX12_moreBy yX12_moreBy ∈ lw_all := zs7 (q := (yX12_moreBy, _)) 2 rfl rfl
abbrev mX12_bookedScreens : zMeth := (yX12_bookedScreens, cX12_bookedScreens, 4, (some .int))
theorem wX12_bookedScreens : Cond.code yX12_bookedScreens cX12_bookedScreens 4 (some .int) ∈ lw_all := zi8 76 rfl rfl
theorem iX12_bookedScreens : Cond.instanceMethod yX12_bookedScreens ∈ lw_all := zi8 75 rfl rfl
theorem eX12_bookedScreens : Cond.selects RX12 yX12_bookedScreens yX12_bookedScreens ∈ lw_all := zs4 (q := (yX12_bookedScreens, _)) 3 rfl rfl
abbrev mX12_size : zMeth := (yX12_size, cX12_size, 2, (some .int))
theorem wX12_size : Cond.code yX12_size cX12_size 2 (some .int) ∈ lw_all := zi8 72 rfl rfl
theorem iX12_size : Cond.instanceMethod yX12_size ∈ lw_all := zi8 70 rfl rfl
theorem eX12_size : Cond.selects RX12 yX12_size yX12_size ∈ lw_all := zi8 71 rfl rfl
abbrev mX12_screensIn : zMeth := (yX12_screensIn, cX12_screensIn, 2, (some .int))
theorem wX12_screensIn : Cond.code yX12_screensIn cX12_screensIn 2 (some .int) ∈ lw_all := zi8 165 rfl rfl
theorem iX12_screensIn : Cond.instanceMethod yX12_screensIn ∈ lw_all := zi8 164 rfl rfl
theorem eX12_screensIn : Cond.selects RX12 yX12_screensIn yX12_screensIn ∈ lw_all := zs5 (q := (yX12_screensIn, _)) 5 rfl rfl
abbrev mX12_house : zMeth := (yX12_house, cX12_house, 3, (some .int))
theorem wX12_house : Cond.code yX12_house cX12_house 3 (some .int) ∈ lw_all := zi8 95 rfl rfl
theorem iX12_house : Cond.instanceMethod yX12_house ∈ lw_all := zi8 93 rfl rfl
theorem eX12_house : Cond.selects RX12 yX12_house yX12_house ∈ lw_all := zi8 94 rfl rfl
abbrev mX12_screen : zMeth := (yX12_screen, cX12_screen, 3, (some .int))
theorem wX12_screen : Cond.code yX12_screen cX12_screen 3 (some .int) ∈ lw_all := zi8 217 rfl rfl
theorem iX12_screen : Cond.instanceMethod yX12_screen ∈ lw_all := zi8 215 rfl rfl
theorem eX12_screen : Cond.selects RX12 yX12_screen yX12_screen ∈ lw_all := zi8 216 rfl rfl
abbrev mX12_film : zMeth := (yX12_film, cX12_film, 3, (some .int))
theorem wX12_film : Cond.code yX12_film cX12_film 3 (some .int) ∈ lw_all := zi8 233 rfl rfl
theorem iX12_film : Cond.instanceMethod yX12_film ∈ lw_all := zi8 231 rfl rfl
theorem eX12_film : Cond.selects RX12 yX12_film yX12_film ∈ lw_all := zi8 232 rfl rfl
abbrev mX12_term : zMeth := (yX12_term, cX12_term, 3, (some .int))
theorem wX12_term : Cond.code yX12_term cX12_term 3 (some .int) ∈ lw_all := zi9 1 rfl rfl
theorem iX12_term : Cond.instanceMethod yX12_term ∈ lw_all := zi8 239 rfl rfl
theorem eX12_term : Cond.selects RX12 yX12_term yX12_term ∈ lw_all := zi9 0 rfl rfl
abbrev mX12_prints : zMeth := (yX12_prints, cX12_prints, 3, (some .int))
theorem wX12_prints : Cond.code yX12_prints cX12_prints 3 (some .int) ∈ lw_all := zi9 5 rfl rfl
theorem iX12_prints : Cond.instanceMethod yX12_prints ∈ lw_all := zi9 3 rfl rfl
theorem eX12_prints : Cond.selects RX12 yX12_prints yX12_prints ∈ lw_all := zi9 4 rfl rfl
abbrev mX12_shown : zMeth := (yX12_shown, cX12_shown, 3, (some .int))
theorem wX12_shown : Cond.code yX12_shown cX12_shown 3 (some .int) ∈ lw_all := zi9 20 rfl rfl
theorem iX12_shown : Cond.instanceMethod yX12_shown ∈ lw_all := zi9 18 rfl rfl
theorem eX12_shown : Cond.selects RX12 yX12_shown yX12_shown ∈ lw_all := zi9 19 rfl rfl
abbrev mX12_visitors : zMeth := (yX12_visitors, cX12_visitors, 3, (some .int))
theorem wX12_visitors : Cond.code yX12_visitors cX12_visitors 3 (some .int) ∈ lw_all := zi9 27 rfl rfl
theorem iX12_visitors : Cond.instanceMethod yX12_visitors ∈ lw_all := zi9 25 rfl rfl
theorem eX12_visitors : Cond.selects RX12 yX12_visitors yX12_visitors ∈ lw_all := zi9 26 rfl rfl
abbrev mX12_share : zMeth := (yX12_share, cX12_share, 3, (some .int))
theorem wX12_share : Cond.code yX12_share cX12_share 3 (some .int) ∈ lw_all := zi9 31 rfl rfl
theorem iX12_share : Cond.instanceMethod yX12_share ∈ lw_all := zi9 29 rfl rfl
theorem eX12_share : Cond.selects RX12 yX12_share yX12_share ∈ lw_all := zi9 30 rfl rfl
abbrev mX12_run : zMeth := (yX12_run, cX12_run, 3, (some .int))
theorem wX12_run : Cond.code yX12_run cX12_run 3 (some .int) ∈ lw_all := zi9 35 rfl rfl
theorem iX12_run : Cond.instanceMethod yX12_run ∈ lw_all := zi9 33 rfl rfl
theorem eX12_run : Cond.selects RX12 yX12_run yX12_run ∈ lw_all := zi9 34 rfl rfl
abbrev mX12_wouldHold : zMeth := (yX12_wouldHold, cX12_wouldHold, 2, (some .boolean))
theorem wX12_wouldHold : Cond.code yX12_wouldHold cX12_wouldHold 2 (some .boolean) ∈ lw_all := zi9 39 rfl rfl
theorem iX12_wouldHold : Cond.instanceMethod yX12_wouldHold ∈ lw_all := zi9 37 rfl rfl
theorem eX12_wouldHold : Cond.selects RX12 yX12_wouldHold yX12_wouldHold ∈ lw_all := zi9 38 rfl rfl
abbrev mX12_forecast : zMeth := (yX12_forecast, cX12_forecast, 7, (some .int))
theorem wX12_forecast : Cond.code yX12_forecast cX12_forecast 7 (some .int) ∈ lw_all := zi9 51 rfl rfl
theorem iX12_forecast : Cond.instanceMethod yX12_forecast ∈ lw_all := zi9 49 rfl rfl
theorem eX12_forecast : Cond.selects RX12 yX12_forecast yX12_forecast ∈ lw_all := zi9 50 rfl rfl
abbrev mX12_tookOf : zMeth := (yX12_tookOf, cX12_tookOf, 2, (some .int))
theorem wX12_tookOf : Cond.code yX12_tookOf cX12_tookOf 2 (some .int) ∈ lw_all := zi9 66 rfl rfl
theorem iX12_tookOf : Cond.instanceMethod yX12_tookOf ∈ lw_all := zi9 65 rfl rfl
theorem eX12_tookOf : Cond.selects RX12 yX12_tookOf yX12_tookOf ∈ lw_all := zs6 (q := (yX12_tookOf, _)) 10 rfl rfl
abbrev mX12_chart : zMeth := (yX12_chart, cX12_chart, 6, (some .int))
theorem wX12_chart : Cond.code yX12_chart cX12_chart 6 (some .int) ∈ lw_all := zi9 62 rfl rfl
theorem iX12_chart : Cond.instanceMethod yX12_chart ∈ lw_all := zi9 60 rfl rfl
theorem eX12_chart : Cond.selects RX12 yX12_chart yX12_chart ∈ lw_all := zi9 61 rfl rfl
abbrev mX12_bestGain : zMeth := (yX12_bestGain, cX12_bestGain, 2, (some .int))
theorem wX12_bestGain : Cond.code yX12_bestGain cX12_bestGain 2 (some .int) ∈ lw_all := zi9 73 rfl rfl
theorem iX12_bestGain : Cond.instanceMethod yX12_bestGain ∈ lw_all := zi9 71 rfl rfl
theorem eX12_bestGain : Cond.selects RX12 yX12_bestGain yX12_bestGain ∈ lw_all := zi9 72 rfl rfl
abbrev mX12_bestFilm : zMeth := (yX12_bestFilm, cX12_bestFilm, 3, (some .int))
theorem wX12_bestFilm : Cond.code yX12_bestFilm cX12_bestFilm 3 (some .int) ∈ lw_all := zi9 97 rfl rfl
theorem iX12_bestFilm : Cond.instanceMethod yX12_bestFilm ∈ lw_all := zi9 95 rfl rfl
theorem eX12_bestFilm : Cond.selects RX12 yX12_bestFilm yX12_bestFilm ∈ lw_all := zi9 96 rfl rfl
abbrev mX12_bestMove : zMeth := (yX12_bestMove, cX12_bestMove, 7, (some .int))
theorem wX12_bestMove : Cond.code yX12_bestMove cX12_bestMove 7 (some .int) ∈ lw_all := zi9 101 rfl rfl
theorem iX12_bestMove : Cond.instanceMethod yX12_bestMove ∈ lw_all := zi9 99 rfl rfl
theorem eX12_bestMove : Cond.selects RX12 yX12_bestMove yX12_bestMove ∈ lw_all := zi9 100 rfl rfl
abbrev mX12_total : zMeth := (yX12_total, cX12_total, 2, (some .int))
theorem wX12_total : Cond.code yX12_total cX12_total 2 (some .int) ∈ lw_all := zi9 117 rfl rfl
theorem iX12_total : Cond.instanceMethod yX12_total ∈ lw_all := zi9 115 rfl rfl
theorem eX12_total : Cond.selects RX12 yX12_total yX12_total ∈ lw_all := zi9 116 rfl rfl
abbrev mX12_closed : zMeth := (yX12_closed, cX12_closed, 4, (some .int))
theorem wX12_closed : Cond.code yX12_closed cX12_closed 4 (some .int) ∈ lw_all := zi9 121 rfl rfl
theorem iX12_closed : Cond.instanceMethod yX12_closed ∈ lw_all := zi9 119 rfl rfl
theorem eX12_closed : Cond.selects RX12 yX12_closed yX12_closed ∈ lw_all := zi9 120 rfl rfl
abbrev mX12_meanTakings : zMeth := (yX12_meanTakings, cX12_meanTakings, 1, (some .double))
theorem wX12_meanTakings : Cond.code yX12_meanTakings cX12_meanTakings 1 (some .double) ∈ lw_all := zi9 125 rfl rfl
theorem iX12_meanTakings : Cond.instanceMethod yX12_meanTakings ∈ lw_all := zi9 123 rfl rfl
theorem eX12_meanTakings : Cond.selects RX12 yX12_meanTakings yX12_meanTakings ∈ lw_all := zi9 124 rfl rfl
abbrev mX12_filled : zMeth := (yX12_filled, cX12_filled, 4, (some .float))
theorem wX12_filled : Cond.code yX12_filled cX12_filled 4 (some .float) ∈ lw_all := zi9 129 rfl rfl
theorem iX12_filled : Cond.instanceMethod yX12_filled ∈ lw_all := zi9 127 rfl rfl
theorem eX12_filled : Cond.selects RX12 yX12_filled yX12_filled ∈ lw_all := zi9 128 rfl rfl
abbrev mX12_tryBooking : zMeth := (yX12_tryBooking, cX12_tryBooking, 10, (some .int))
theorem wX12_tryBooking : Cond.code yX12_tryBooking cX12_tryBooking 10 (some .int) ∈ lw_all := zi9 137 rfl rfl
theorem iX12_tryBooking : Cond.instanceMethod yX12_tryBooking ∈ lw_all := zi9 136 rfl rfl
theorem eX12_tryBooking : Cond.selects RX12 yX12_tryBooking yX12_tryBooking ∈ lw_all := zs7 (q := (yX12_tryBooking, _)) 3 rfl rfl
abbrev mX12_book_ : zMeth := (yX12_book_, cX12_book_, 3, (some .int))
theorem wX12_book_ : Cond.code yX12_book_ cX12_book_ 3 (some .int) ∈ lw_all := zi9 133 rfl rfl
theorem iX12_book_ : Cond.instanceMethod yX12_book_ ∈ lw_all := zi9 131 rfl rfl
theorem eX12_book_ : Cond.selects RX12 yX12_book_ yX12_book_ ∈ lw_all := zi9 132 rfl rfl
abbrev mX12_split : zMeth := (yX12_split, cX12_split, 5, (some .int))
theorem wX12_split : Cond.code yX12_split cX12_split 5 (some .int) ∈ lw_all := zi9 148 rfl rfl
theorem iX12_split : Cond.instanceMethod yX12_split ∈ lw_all := zi9 146 rfl rfl
theorem eX12_split : Cond.selects RX12 yX12_split yX12_split ∈ lw_all := zi9 147 rfl rfl
abbrev mX12_empty : zMeth := (yX12_empty, cX12_empty, 3, (some .int))
theorem wX12_empty : Cond.code yX12_empty cX12_empty 3 (some .int) ∈ lw_all := zi9 152 rfl rfl
theorem iX12_empty : Cond.instanceMethod yX12_empty ∈ lw_all := zi9 150 rfl rfl
theorem eX12_empty : Cond.selects RX12 yX12_empty yX12_empty ∈ lw_all := zi9 151 rfl rfl
abbrev mX12_move : zMeth := (yX12_move, cX12_move, 4, (some .int))
theorem wX12_move : Cond.code yX12_move cX12_move 4 (some .int) ∈ lw_all := zi9 156 rfl rfl
theorem iX12_move : Cond.instanceMethod yX12_move ∈ lw_all := zi9 154 rfl rfl
theorem eX12_move : Cond.selects RX12 yX12_move yX12_move ∈ lw_all := zi9 155 rfl rfl
abbrev mX12_keepWeek : zMeth := (yX12_keepWeek, cX12_keepWeek, 3, none)
theorem wX12_keepWeek : Cond.code yX12_keepWeek cX12_keepWeek 3 none ∈ lw_all := zi9 164 rfl rfl
theorem iX12_keepWeek : Cond.instanceMethod yX12_keepWeek ∈ lw_all := zi9 163 rfl rfl
theorem eX12_keepWeek : Cond.selects RX12 yX12_keepWeek yX12_keepWeek ∈ lw_all := zs7 (q := (yX12_keepWeek, _)) 5 rfl rfl
abbrev mX12_keepFilm : zMeth := (yX12_keepFilm, cX12_keepFilm, 3, none)
theorem wX12_keepFilm : Cond.code yX12_keepFilm cX12_keepFilm 3 none ∈ lw_all := zi9 168 rfl rfl
theorem iX12_keepFilm : Cond.instanceMethod yX12_keepFilm ∈ lw_all := zi9 167 rfl rfl
theorem eX12_keepFilm : Cond.selects RX12 yX12_keepFilm yX12_keepFilm ∈ lw_all := zs7 (q := (yX12_keepFilm, _)) 6 rfl rfl
abbrev mX12_holdScreens : zMeth := (yX12_holdScreens, cX12_holdScreens, 3, none)
theorem wX12_holdScreens : Cond.code yX12_holdScreens cX12_holdScreens 3 none ∈ lw_all := zi9 172 rfl rfl
theorem iX12_holdScreens : Cond.instanceMethod yX12_holdScreens ∈ lw_all := zi9 171 rfl rfl
theorem eX12_holdScreens : Cond.selects RX12 yX12_holdScreens yX12_holdScreens ∈ lw_all := zs7 (q := (yX12_holdScreens, _)) 7 rfl rfl
abbrev mX12_close : zMeth := (yX12_close, cX12_close, 2, (some .int))
theorem wX12_close : Cond.code yX12_close cX12_close 2 (some .int) ∈ lw_all := zi9 160 rfl rfl
theorem iX12_close : Cond.instanceMethod yX12_close ∈ lw_all := zi9 158 rfl rfl
theorem eX12_close : Cond.selects RX12 yX12_close yX12_close ∈ lw_all := zi9 159 rfl rfl
abbrev mX12_program : zMeth := (yX12_program, cX12_program, 6, (some .int))
theorem wX12_program : Cond.code yX12_program cX12_program 6 (some .int) ∈ lw_all := zi9 176 rfl rfl
theorem iX12_program : Cond.instanceMethod yX12_program ∈ lw_all := zi9 174 rfl rfl
theorem eX12_program : Cond.selects RX12 yX12_program yX12_program ∈ lw_all := zi9 175 rfl rfl
abbrev mX12_change : zMeth := (yX12_change, cX12_change, 4, (some .int))
theorem wX12_change : Cond.code yX12_change cX12_change 4 (some .int) ∈ lw_all := zi9 184 rfl rfl
theorem iX12_change : Cond.instanceMethod yX12_change ∈ lw_all := zi9 183 rfl rfl
theorem eX12_change : Cond.selects RX12 yX12_change yX12_change ∈ lw_all := zs7 (q := (yX12_change, _)) 8 rfl rfl
abbrev mX12_setHoldover : zMeth := (yX12_setHoldover, cX12_setHoldover, 3, (some .int))
theorem wX12_setHoldover : Cond.code yX12_setHoldover cX12_setHoldover 3 (some .int) ∈ lw_all := zi9 180 rfl rfl
theorem iX12_setHoldover : Cond.instanceMethod yX12_setHoldover ∈ lw_all := zi9 178 rfl rfl
theorem eX12_setHoldover : Cond.selects RX12 yX12_setHoldover yX12_setHoldover ∈ lw_all := zi9 179 rfl rfl
abbrev mX12_setRent : zMeth := (yX12_setRent, cX12_setRent, 3, (some .int))
theorem wX12_setRent : Cond.code yX12_setRent cX12_setRent 3 (some .int) ∈ lw_all := zi9 188 rfl rfl
theorem iX12_setRent : Cond.instanceMethod yX12_setRent ∈ lw_all := zi9 186 rfl rfl
theorem eX12_setRent : Cond.selects RX12 yX12_setRent yX12_setRent ∈ lw_all := zi9 187 rfl rfl
abbrev mX12_setFee : zMeth := (yX12_setFee, cX12_setFee, 2, (some .int))
theorem wX12_setFee : Cond.code yX12_setFee cX12_setFee 2 (some .int) ∈ lw_all := zi9 192 rfl rfl
theorem iX12_setFee : Cond.instanceMethod yX12_setFee ∈ lw_all := zi9 190 rfl rfl
theorem eX12_setFee : Cond.selects RX12 yX12_setFee yX12_setFee ∈ lw_all := zi9 191 rfl rfl
abbrev mX12_write : zMeth := (yX12_write, cX12_write, 2, none)
theorem wX12_write : Cond.code yX12_write cX12_write 2 none ∈ lw_all := zi9 200 rfl rfl
theorem iX12_write : Cond.instanceMethod yX12_write ∈ lw_all := zi9 199 rfl rfl
theorem eX12_write : Cond.selects RX12 yX12_write yX12_write ∈ lw_all := zs7 (q := (yX12_write, _)) 9 rfl rfl
abbrev mX12_format : zMeth := (yX12_format, cX12_format, 4, (some .int))
theorem wX12_format : Cond.code yX12_format cX12_format 4 (some .int) ∈ lw_all := zi9 196 rfl rfl
theorem iX12_format : Cond.instanceMethod yX12_format ∈ lw_all := zi9 194 rfl rfl
theorem eX12_format : Cond.selects RX12 yX12_format yX12_format ∈ lw_all := zi9 195 rfl rfl
abbrev mX12_formattedByte : zMeth := (yX12_formattedByte, cX12_formattedByte, 2, (some .int))
theorem wX12_formattedByte : Cond.code yX12_formattedByte cX12_formattedByte 2 (some .int) ∈ lw_all := zi9 208 rfl rfl
theorem iX12_formattedByte : Cond.instanceMethod yX12_formattedByte ∈ lw_all := zi9 206 rfl rfl
theorem eX12_formattedByte : Cond.selects RX12 yX12_formattedByte yX12_formattedByte ∈ lw_all := zi9 207 rfl rfl
abbrev mX12_copy : zMeth := (yX12_copy, cX12_copy, 5, none)
theorem wX12_copy : Cond.code yX12_copy cX12_copy 5 none ∈ lw_all := zi9 144 rfl rfl
theorem sX12_copy : Cond.static yX12_copy ∈ lw_all := zi9 143 rfl rfl
abbrev mX12_record : zMeth := (yX12_record, cX12_record, 2, none)
theorem wX12_record : Cond.code yX12_record cX12_record 2 none ∈ lw_all := zi9 141 rfl rfl
theorem iX12_record : Cond.instanceMethod yX12_record ∈ lw_all := zi9 140 rfl rfl
theorem eX12_record : Cond.selects RX12 yX12_record yX12_record ∈ lw_all := zs7 (q := (yX12_record, _)) 4 rfl rfl
abbrev mX12_undoCount : zMeth := (yX12_undoCount, cX12_undoCount, 1, (some .int))
theorem wX12_undoCount : Cond.code yX12_undoCount cX12_undoCount 1 (some .int) ∈ lw_all := zi9 212 rfl rfl
theorem iX12_undoCount : Cond.instanceMethod yX12_undoCount ∈ lw_all := zi9 210 rfl rfl
theorem eX12_undoCount : Cond.selects RX12 yX12_undoCount yX12_undoCount ∈ lw_all := zi9 211 rfl rfl
abbrev mX12_undo : zMeth := (yX12_undo, cX12_undo, 1, (some .int))
theorem wX12_undo : Cond.code yX12_undo cX12_undo 1 (some .int) ∈ lw_all := zi9 216 rfl rfl
theorem iX12_undo : Cond.instanceMethod yX12_undo ∈ lw_all := zi9 214 rfl rfl
theorem eX12_undo : Cond.selects RX12 yX12_undo yX12_undo ∈ lw_all := zi9 215 rfl rfl
abbrev mX12_saveSnapshot : zMeth := (yX12_saveSnapshot, cX12_saveSnapshot, 1, none)
theorem wX12_saveSnapshot : Cond.code yX12_saveSnapshot cX12_saveSnapshot 1 none ∈ lw_all := zi9 220 rfl rfl
theorem iX12_saveSnapshot : Cond.instanceMethod yX12_saveSnapshot ∈ lw_all := zi9 218 rfl rfl
theorem eX12_saveSnapshot : Cond.selects RX12 yX12_saveSnapshot yX12_saveSnapshot ∈ lw_all := zi9 219 rfl rfl
abbrev mX12_restoreSnapshot : zMeth := (yX12_restoreSnapshot, cX12_restoreSnapshot, 1, (some .boolean))
theorem wX12_restoreSnapshot : Cond.code yX12_restoreSnapshot cX12_restoreSnapshot 1 (some .boolean) ∈ lw_all := zi9 224 rfl rfl
theorem iX12_restoreSnapshot : Cond.instanceMethod yX12_restoreSnapshot ∈ lw_all := zi9 222 rfl rfl
theorem eX12_restoreSnapshot : Cond.selects RX12 yX12_restoreSnapshot yX12_restoreSnapshot ∈ lw_all := zi9 223 rfl rfl
abbrev mX12_feed : zMeth := (yX12_feed, cX12_feed, 8, (some .int))
theorem wX12_feed : Cond.code yX12_feed cX12_feed 8 (some .int) ∈ lw_all := zi9 228 rfl rfl
theorem iX12_feed : Cond.instanceMethod yX12_feed ∈ lw_all := zi9 226 rfl rfl
theorem eX12_feed : Cond.selects RX12 yX12_feed yX12_feed ∈ lw_all := zi9 227 rfl rfl
abbrev mX12_errorPosition : zMeth := (yX12_errorPosition, cX12_errorPosition, 1, (some .int))
theorem wX12_errorPosition : Cond.code yX12_errorPosition cX12_errorPosition 1 (some .int) ∈ lw_all := zi9 232 rfl rfl
theorem iX12_errorPosition : Cond.instanceMethod yX12_errorPosition ∈ lw_all := zi9 230 rfl rfl
theorem eX12_errorPosition : Cond.selects RX12 yX12_errorPosition yX12_errorPosition ∈ lw_all := zi9 231 rfl rfl
abbrev mX12_byteAt : zMeth := (yX12_byteAt, cX12_byteAt, 2, (some .int))
theorem wX12_byteAt : Cond.code yX12_byteAt cX12_byteAt 2 (some .int) ∈ lw_all := zi10 8 rfl rfl
theorem iX12_byteAt : Cond.instanceMethod yX12_byteAt ∈ lw_all := zi10 7 rfl rfl
theorem eX12_byteAt : Cond.selects RX12 yX12_byteAt yX12_byteAt ∈ lw_all := zs7 (q := (yX12_byteAt, _)) 12 rfl rfl
abbrev mX12_isLetter : zMeth := (yX12_isLetter, cX12_isLetter, 2, (some .boolean))
theorem wX12_isLetter : Cond.code yX12_isLetter cX12_isLetter 2 (some .boolean) ∈ lw_all := zi10 12 rfl rfl
theorem iX12_isLetter : Cond.instanceMethod yX12_isLetter ∈ lw_all := zi10 11 rfl rfl
theorem eX12_isLetter : Cond.selects RX12 yX12_isLetter yX12_isLetter ∈ lw_all := zs7 (q := (yX12_isLetter, _)) 13 rfl rfl
abbrev mX12_isDigit : zMeth := (yX12_isDigit, cX12_isDigit, 2, (some .boolean))
theorem wX12_isDigit : Cond.code yX12_isDigit cX12_isDigit 2 (some .boolean) ∈ lw_all := zi10 16 rfl rfl
theorem iX12_isDigit : Cond.instanceMethod yX12_isDigit ∈ lw_all := zi10 15 rfl rfl
theorem eX12_isDigit : Cond.selects RX12 yX12_isDigit yX12_isDigit ∈ lw_all := zs7 (q := (yX12_isDigit, _)) 14 rfl rfl
abbrev mX12_scan : zMeth := (yX12_scan, cX12_scan, 1, none)
theorem wX12_scan : Cond.code yX12_scan cX12_scan 1 none ∈ lw_all := zi10 4 rfl rfl
theorem iX12_scan : Cond.instanceMethod yX12_scan ∈ lw_all := zi10 3 rfl rfl
theorem eX12_scan : Cond.selects RX12 yX12_scan yX12_scan ∈ lw_all := zs7 (q := (yX12_scan, _)) 11 rfl rfl
abbrev mX12_startText : zMeth := (yX12_startText, cX12_startText, 2, none)
theorem wX12_startText : Cond.code yX12_startText cX12_startText 2 none ∈ lw_all := zi10 0 rfl rfl
theorem iX12_startText : Cond.instanceMethod yX12_startText ∈ lw_all := zi9 239 rfl rfl
theorem eX12_startText : Cond.selects RX12 yX12_startText yX12_startText ∈ lw_all := zs7 (q := (yX12_startText, _)) 10 rfl rfl
abbrev mX12_finish : zMeth := (yX12_finish, cX12_finish, 1, (some .int))
theorem wX12_finish : Cond.code yX12_finish cX12_finish 1 (some .int) ∈ lw_all := zi10 98 rfl rfl
theorem iX12_finish : Cond.instanceMethod yX12_finish ∈ lw_all := zi10 97 rfl rfl
theorem eX12_finish : Cond.selects RX12 yX12_finish yX12_finish ∈ lw_all := zs9 (q := (yX12_finish, _)) 0 rfl rfl
abbrev mX12_flaw : zMeth := (yX12_flaw, cX12_flaw, 2, none)
theorem wX12_flaw : Cond.code yX12_flaw cX12_flaw 2 none ∈ lw_all := zi10 36 rfl rfl
theorem iX12_flaw : Cond.instanceMethod yX12_flaw ∈ lw_all := zi10 35 rfl rfl
theorem eX12_flaw : Cond.selects RX12 yX12_flaw yX12_flaw ∈ lw_all := zs8 (q := (yX12_flaw, _)) 3 rfl rfl
abbrev mX12_check : zMeth := (yX12_check, cX12_check, 3, none)
theorem wX12_check : Cond.code yX12_check cX12_check 3 none ∈ lw_all := zi10 32 rfl rfl
theorem iX12_check : Cond.instanceMethod yX12_check ∈ lw_all := zi10 31 rfl rfl
theorem eX12_check : Cond.selects RX12 yX12_check yX12_check ∈ lw_all := zs8 (q := (yX12_check, _)) 2 rfl rfl
abbrev mX12_advance : zMeth := (yX12_advance, cX12_advance, 1, none)
theorem wX12_advance : Cond.code yX12_advance cX12_advance 1 none ∈ lw_all := zi10 40 rfl rfl
theorem iX12_advance : Cond.instanceMethod yX12_advance ∈ lw_all := zi10 39 rfl rfl
theorem eX12_advance : Cond.selects RX12 yX12_advance yX12_advance ∈ lw_all := zs8 (q := (yX12_advance, _)) 4 rfl rfl
abbrev mX12_isSymbol : zMeth := (yX12_isSymbol, cX12_isSymbol, 2, (some .boolean))
theorem wX12_isSymbol : Cond.code yX12_isSymbol cX12_isSymbol 2 (some .boolean) ∈ lw_all := zi10 94 rfl rfl
theorem iX12_isSymbol : Cond.instanceMethod yX12_isSymbol ∈ lw_all := zi10 93 rfl rfl
theorem eX12_isSymbol : Cond.selects RX12 yX12_isSymbol yX12_isSymbol ∈ lw_all := zs8 (q := (yX12_isSymbol, _)) 15 rfl rfl
abbrev mX12_isWord : zMeth := (yX12_isWord, cX12_isWord, 4, (some .boolean))
theorem wX12_isWord : Cond.code yX12_isWord cX12_isWord 4 (some .boolean) ∈ lw_all := zi10 24 rfl rfl
theorem iX12_isWord : Cond.instanceMethod yX12_isWord ∈ lw_all := zi10 23 rfl rfl
theorem eX12_isWord : Cond.selects RX12 yX12_isWord yX12_isWord ∈ lw_all := zs8 (q := (yX12_isWord, _)) 0 rfl rfl
abbrev mX12_accept : zMeth := (yX12_accept, cX12_accept, 3, (some .boolean))
theorem wX12_accept : Cond.code yX12_accept cX12_accept 3 (some .boolean) ∈ lw_all := zi10 76 rfl rfl
theorem iX12_accept : Cond.instanceMethod yX12_accept ∈ lw_all := zi10 75 rfl rfl
theorem eX12_accept : Cond.selects RX12 yX12_accept yX12_accept ∈ lw_all := zs8 (q := (yX12_accept, _)) 11 rfl rfl
abbrev mX12_expectWord : zMeth := (yX12_expectWord, cX12_expectWord, 2, none)
theorem wX12_expectWord : Cond.code yX12_expectWord cX12_expectWord 2 none ∈ lw_all := zi10 86 rfl rfl
theorem iX12_expectWord : Cond.instanceMethod yX12_expectWord ∈ lw_all := zi10 85 rfl rfl
theorem eX12_expectWord : Cond.selects RX12 yX12_expectWord yX12_expectWord ∈ lw_all := zs8 (q := (yX12_expectWord, _)) 13 rfl rfl
abbrev mX12_expect : zMeth := (yX12_expect, cX12_expect, 2, none)
theorem wX12_expect : Cond.code yX12_expect cX12_expect 2 none ∈ lw_all := zi10 90 rfl rfl
theorem iX12_expect : Cond.instanceMethod yX12_expect ∈ lw_all := zi10 89 rfl rfl
theorem eX12_expect : Cond.selects RX12 yX12_expect yX12_expect ∈ lw_all := zs8 (q := (yX12_expect, _)) 14 rfl rfl
abbrev mX12_value : zMeth := (yX12_value, cX12_value, 3, (some .int))
theorem wX12_value : Cond.code yX12_value cX12_value 3 (some .int) ∈ lw_all := zi10 48 rfl rfl
theorem iX12_value : Cond.instanceMethod yX12_value ∈ lw_all := zi10 47 rfl rfl
theorem eX12_value : Cond.selects RX12 yX12_value yX12_value ∈ lw_all := zs8 (q := (yX12_value, _)) 6 rfl rfl
abbrev mX12_readNumber : zMeth := (yX12_readNumber, cX12_readNumber, 4, (some .int))
theorem wX12_readNumber : Cond.code yX12_readNumber cX12_readNumber 4 (some .int) ∈ lw_all := zi10 44 rfl rfl
theorem iX12_readNumber : Cond.instanceMethod yX12_readNumber ∈ lw_all := zi10 43 rfl rfl
theorem eX12_readNumber : Cond.selects RX12 yX12_readNumber yX12_readNumber ∈ lw_all := zs8 (q := (yX12_readNumber, _)) 5 rfl rfl
abbrev mX12_readHouse : zMeth := (yX12_readHouse, cX12_readHouse, 3, none)
theorem wX12_readHouse : Cond.code yX12_readHouse cX12_readHouse 3 none ∈ lw_all := zi10 28 rfl rfl
theorem iX12_readHouse : Cond.instanceMethod yX12_readHouse ∈ lw_all := zi10 27 rfl rfl
theorem eX12_readHouse : Cond.selects RX12 yX12_readHouse yX12_readHouse ∈ lw_all := zs8 (q := (yX12_readHouse, _)) 1 rfl rfl
abbrev mX12_screensRead : zMeth := (yX12_screensRead, cX12_screensRead, 4, (some .int))
theorem wX12_screensRead : Cond.code yX12_screensRead cX12_screensRead 4 (some .int) ∈ lw_all := zi10 62 rfl rfl
theorem iX12_screensRead : Cond.instanceMethod yX12_screensRead ∈ lw_all := zi10 61 rfl rfl
theorem eX12_screensRead : Cond.selects RX12 yX12_screensRead yX12_screensRead ∈ lw_all := zs8 (q := (yX12_screensRead, _)) 8 rfl rfl
abbrev mX12_readScreen : zMeth := (yX12_readScreen, cX12_readScreen, 6, none)
theorem wX12_readScreen : Cond.code yX12_readScreen cX12_readScreen 6 none ∈ lw_all := zi10 58 rfl rfl
theorem iX12_readScreen : Cond.instanceMethod yX12_readScreen ∈ lw_all := zi10 57 rfl rfl
theorem eX12_readScreen : Cond.selects RX12 yX12_readScreen yX12_readScreen ∈ lw_all := zs8 (q := (yX12_readScreen, _)) 7 rfl rfl
abbrev mX12_readTerms : zMeth := (yX12_readTerms, cX12_readTerms, 3, none)
theorem wX12_readTerms : Cond.code yX12_readTerms cX12_readTerms 3 none ∈ lw_all := zi10 71 rfl rfl
theorem iX12_readTerms : Cond.instanceMethod yX12_readTerms ∈ lw_all := zi10 70 rfl rfl
theorem eX12_readTerms : Cond.selects RX12 yX12_readTerms yX12_readTerms ∈ lw_all := zs8 (q := (yX12_readTerms, _)) 10 rfl rfl
abbrev mX12_readFilm : zMeth := (yX12_readFilm, cX12_readFilm, 2, none)
theorem wX12_readFilm : Cond.code yX12_readFilm cX12_readFilm 2 none ∈ lw_all := zi10 67 rfl rfl
theorem iX12_readFilm : Cond.instanceMethod yX12_readFilm ∈ lw_all := zi10 66 rfl rfl
theorem eX12_readFilm : Cond.selects RX12 yX12_readFilm yX12_readFilm ∈ lw_all := zs8 (q := (yX12_readFilm, _)) 9 rfl rfl
abbrev mX12_readPrints : zMeth := (yX12_readPrints, cX12_readPrints, 4, none)
theorem wX12_readPrints : Cond.code yX12_readPrints cX12_readPrints 4 none ∈ lw_all := zi10 80 rfl rfl
theorem iX12_readPrints : Cond.instanceMethod yX12_readPrints ∈ lw_all := zi10 79 rfl rfl
theorem eX12_readPrints : Cond.selects RX12 yX12_readPrints yX12_readPrints ∈ lw_all := zs8 (q := (yX12_readPrints, _)) 12 rfl rfl
abbrev mX12_readClause : zMeth := (yX12_readClause, cX12_readClause, 1, none)
theorem wX12_readClause : Cond.code yX12_readClause cX12_readClause 1 none ∈ lw_all := zi10 20 rfl rfl
theorem iX12_readClause : Cond.instanceMethod yX12_readClause ∈ lw_all := zi10 19 rfl rfl
theorem eX12_readClause : Cond.selects RX12 yX12_readClause yX12_readClause ∈ lw_all := zs7 (q := (yX12_readClause, _)) 15 rfl rfl
abbrev mX12_load : zMeth := (yX12_load, cX12_load, 2, (some .int))
theorem wX12_load : Cond.code yX12_load cX12_load 2 (some .int) ∈ lw_all := zi9 236 rfl rfl
theorem iX12_load : Cond.instanceMethod yX12_load ∈ lw_all := zi9 234 rfl rfl
theorem eX12_load : Cond.selects RX12 yX12_load yX12_load ∈ lw_all := zi9 235 rfl rfl
abbrev mX12_emit : zMeth := (yX12_emit, cX12_emit, 2, none)
theorem wX12_emit : Cond.code yX12_emit cX12_emit 2 none ∈ lw_all := zi10 125 rfl rfl
theorem iX12_emit : Cond.instanceMethod yX12_emit ∈ lw_all := zi10 124 rfl rfl
theorem eX12_emit : Cond.selects RX12 yX12_emit yX12_emit ∈ lw_all := zs9 (q := (yX12_emit, _)) 5 rfl rfl
abbrev mX12_enter : zMeth := (yX12_enter, cX12_enter, 1, none)
theorem wX12_enter : Cond.code yX12_enter cX12_enter 1 none ∈ lw_all := zi10 121 rfl rfl
theorem iX12_enter : Cond.instanceMethod yX12_enter ∈ lw_all := zi10 120 rfl rfl
theorem eX12_enter : Cond.selects RX12 yX12_enter yX12_enter ∈ lw_all := zs9 (q := (yX12_enter, _)) 4 rfl rfl
abbrev mX12_compileValue : zMeth := (yX12_compileValue, cX12_compileValue, 2, none)
theorem wX12_compileValue : Cond.code yX12_compileValue cX12_compileValue 2 none ∈ lw_all := zi10 129 rfl rfl
theorem iX12_compileValue : Cond.instanceMethod yX12_compileValue ∈ lw_all := zi10 128 rfl rfl
theorem eX12_compileValue : Cond.selects RX12 yX12_compileValue yX12_compileValue ∈ lw_all := zs9 (q := (yX12_compileValue, _)) 6 rfl rfl
abbrev mX12_compileFactor : zMeth := (yX12_compileFactor, cX12_compileFactor, 2, none)
theorem wX12_compileFactor : Cond.code yX12_compileFactor cX12_compileFactor 2 none ∈ lw_all := zi10 116 rfl rfl
theorem iX12_compileFactor : Cond.instanceMethod yX12_compileFactor ∈ lw_all := zi10 115 rfl rfl
theorem eX12_compileFactor : Cond.selects RX12 yX12_compileFactor yX12_compileFactor ∈ lw_all := zs9 (q := (yX12_compileFactor, _)) 3 rfl rfl
abbrev mX12_compileConjunction : zMeth := (yX12_compileConjunction, cX12_compileConjunction, 1, none)
theorem wX12_compileConjunction : Cond.code yX12_compileConjunction cX12_compileConjunction 1 none ∈ lw_all := zi10 112 rfl rfl
theorem iX12_compileConjunction : Cond.instanceMethod yX12_compileConjunction ∈ lw_all := zi10 111 rfl rfl
theorem eX12_compileConjunction : Cond.selects RX12 yX12_compileConjunction yX12_compileConjunction ∈ lw_all := zs9 (q := (yX12_compileConjunction, _)) 2 rfl rfl
abbrev mX12_compileTest : zMeth := (yX12_compileTest, cX12_compileTest, 1, none)
theorem wX12_compileTest : Cond.code yX12_compileTest cX12_compileTest 1 none ∈ lw_all := zi10 108 rfl rfl
theorem iX12_compileTest : Cond.instanceMethod yX12_compileTest ∈ lw_all := zi10 107 rfl rfl
theorem eX12_compileTest : Cond.selects RX12 yX12_compileTest yX12_compileTest ∈ lw_all := zs9 (q := (yX12_compileTest, _)) 1 rfl rfl
abbrev mX12_operate : zMeth := (yX12_operate, cX12_operate, 5, (some .long))
theorem wX12_operate : Cond.code yX12_operate cX12_operate 5 (some .long) ∈ lw_all := zi10 144 rfl rfl
theorem sX12_operate : Cond.static yX12_operate ∈ lw_all := zi10 143 rfl rfl
abbrev mX12_property : zMeth := (yX12_property, cX12_property, 3, (some .int))
theorem wX12_property : Cond.code yX12_property cX12_property 3 (some .int) ∈ lw_all := zi10 141 rfl rfl
theorem iX12_property : Cond.instanceMethod yX12_property ∈ lw_all := zi10 140 rfl rfl
theorem eX12_property : Cond.selects RX12 yX12_property yX12_property ∈ lw_all := zs9 (q := (yX12_property, _)) 8 rfl rfl
abbrev mX12_holdsFor : zMeth := (yX12_holdsFor, cX12_holdsFor, 5, (some .boolean))
theorem wX12_holdsFor : Cond.code yX12_holdsFor cX12_holdsFor 5 (some .boolean) ∈ lw_all := zi10 137 rfl rfl
theorem iX12_holdsFor : Cond.instanceMethod yX12_holdsFor ∈ lw_all := zi10 136 rfl rfl
theorem eX12_holdsFor : Cond.selects RX12 yX12_holdsFor yX12_holdsFor ∈ lw_all := zs9 (q := (yX12_holdsFor, _)) 7 rfl rfl
abbrev mX12_query : zMeth := (yX12_query, cX12_query, 5, (some .int))
theorem wX12_query : Cond.code yX12_query cX12_query 5 (some .int) ∈ lw_all := zi10 102 rfl rfl
theorem iX12_query : Cond.instanceMethod yX12_query ∈ lw_all := zi10 100 rfl rfl
theorem eX12_query : Cond.selects RX12 yX12_query yX12_query ∈ lw_all := zi10 101 rfl rfl
abbrev mJ5_init_d00df : zMeth := (yJ5_init_d00df, cJ5_init_d00df, 2, none)
theorem wJ5_init_d00df : Cond.code yJ5_init_d00df cJ5_init_d00df 2 none ∈ lw_all := zi1 45 rfl rfl
theorem iJ5_init_d00df : Cond.instanceMethod yJ5_init_d00df ∈ lw_all := zi1 44 rfl rfl
abbrev mJ5_length_8abf5 : zMeth := (yJ5_length_8abf5, cJ5_length_8abf5, 1, (some .int))
theorem wJ5_length_8abf5 : Cond.code yJ5_length_8abf5 cJ5_length_8abf5 1 (some .int) ∈ lw_all := zi4 41 rfl rfl
theorem iJ5_length_8abf5 : Cond.instanceMethod yJ5_length_8abf5 ∈ lw_all := zi4 40 rfl rfl
abbrev mJ5_ensureCapacityInternal_d00df : zMeth := (yJ5_ensureCapacityInternal_d00df, cJ5_ensureCapacityInternal_d00df, 3, none)
theorem wJ5_ensureCapacityInternal_d00df : Cond.code yJ5_ensureCapacityInternal_d00df cJ5_ensureCapacityInternal_d00df 3 none ∈ lw_all := zi6 139 rfl rfl
theorem iJ5_ensureCapacityInternal_d00df : Cond.instanceMethod yJ5_ensureCapacityInternal_d00df ∈ lw_all := zi6 138 rfl rfl
abbrev mJ5_newCapacity_0f7a4 : zMeth := (yJ5_newCapacity_0f7a4, cJ5_newCapacity_0f7a4, 6, (some .int))
theorem wJ5_newCapacity_0f7a4 : Cond.code yJ5_newCapacity_0f7a4 cJ5_newCapacity_0f7a4 6 (some .int) ∈ lw_all := zi6 143 rfl rfl
theorem iJ5_newCapacity_0f7a4 : Cond.instanceMethod yJ5_newCapacity_0f7a4 ∈ lw_all := zi6 142 rfl rfl
abbrev mJ5_inflate_da8c8 : zMeth := (yJ5_inflate_da8c8, cJ5_inflate_da8c8, 2, none)
theorem wJ5_inflate_da8c8 : Cond.code yJ5_inflate_da8c8 cJ5_inflate_da8c8 2 none ∈ lw_all := zi6 222 rfl rfl
theorem iJ5_inflate_da8c8 : Cond.instanceMethod yJ5_inflate_da8c8 ∈ lw_all := zi6 221 rfl rfl
abbrev mJ5_setLength_d00df : zMeth := (yJ5_setLength_d00df, cJ5_setLength_d00df, 2, none)
theorem wJ5_setLength_d00df : Cond.code yJ5_setLength_d00df cJ5_setLength_d00df 2 none ∈ lw_all := zi6 135 rfl rfl
theorem iJ5_setLength_d00df : Cond.instanceMethod yJ5_setLength_d00df ∈ lw_all := zi6 134 rfl rfl
abbrev mJ5_charAt_5068e : zMeth := (yJ5_charAt_5068e, cJ5_charAt_5068e, 5, (some .char))
theorem wJ5_charAt_5068e : Cond.code yJ5_charAt_5068e cJ5_charAt_5068e 5 (some .char) ∈ lw_all := zi4 48 rfl rfl
theorem iJ5_charAt_5068e : Cond.instanceMethod yJ5_charAt_5068e ∈ lw_all := zi4 47 rfl rfl
abbrev mJ5_append_cf1ce : zMeth := (yJ5_append_cf1ce, cJ5_append_cf1ce, 3, (some (.object "java/lang/AbstractStringBuilder")))
theorem wJ5_append_cf1ce : Cond.code yJ5_append_cf1ce cJ5_append_cf1ce 3 (some (.object "java/lang/AbstractStringBuilder")) ∈ lw_all := zi6 189 rfl rfl
theorem iJ5_append_cf1ce : Cond.instanceMethod yJ5_append_cf1ce ∈ lw_all := zi6 188 rfl rfl
abbrev mJ5_appendNull_278bc : zMeth := (yJ5_appendNull_278bc, cJ5_appendNull_278bc, 3, (some (.object "java/lang/AbstractStringBuilder")))
theorem wJ5_appendNull_278bc : Cond.code yJ5_appendNull_278bc cJ5_appendNull_278bc 3 (some (.object "java/lang/AbstractStringBuilder")) ∈ lw_all := zi6 193 rfl rfl
theorem iJ5_appendNull_278bc : Cond.instanceMethod yJ5_appendNull_278bc ∈ lw_all := zi6 192 rfl rfl
abbrev mJ5_append_3fe6f : zMeth := (yJ5_append_3fe6f, cJ5_append_3fe6f, 2, (some (.object "java/lang/AbstractStringBuilder")))
theorem wJ5_append_3fe6f : Cond.code yJ5_append_3fe6f cJ5_append_3fe6f 2 (some (.object "java/lang/AbstractStringBuilder")) ∈ lw_all := zi7 93 rfl rfl
theorem iJ5_append_3fe6f : Cond.instanceMethod yJ5_append_3fe6f ∈ lw_all := zi7 92 rfl rfl
abbrev mJ5_append_c97b9 : zMeth := (yJ5_append_c97b9, cJ5_append_c97b9, 4, (some (.object "java/lang/AbstractStringBuilder")))
theorem wJ5_append_c97b9 : Cond.code yJ5_append_c97b9 cJ5_append_c97b9 4 (some (.object "java/lang/AbstractStringBuilder")) ∈ lw_all := zi7 10 rfl rfl
theorem iJ5_append_c97b9 : Cond.instanceMethod yJ5_append_c97b9 ∈ lw_all := zi7 9 rfl rfl
abbrev mJ5_getValue_6d5f1 : zMeth := (yJ5_getValue_6d5f1, cJ5_getValue_6d5f1, 1, (some (.array .byte)))
theorem wJ5_getValue_6d5f1 : Cond.code yJ5_getValue_6d5f1 cJ5_getValue_6d5f1 1 (some (.array .byte)) ∈ lw_all := zi7 48 rfl rfl
theorem iJ5_getValue_6d5f1 : Cond.instanceMethod yJ5_getValue_6d5f1 ∈ lw_all := zi7 45 rfl rfl
abbrev mJ5_isLatin1_aae02 : zMeth := (yJ5_isLatin1_aae02, cJ5_isLatin1_aae02, 1, (some .boolean))
theorem wJ5_isLatin1_aae02 : Cond.code yJ5_isLatin1_aae02 cJ5_isLatin1_aae02 1 (some .boolean) ∈ lw_all := zi6 169 rfl rfl
theorem iJ5_isLatin1_aae02 : Cond.instanceMethod yJ5_isLatin1_aae02 ∈ lw_all := zi6 166 rfl rfl
abbrev mJ5_inflateIfNeededFor_a7421 : zMeth := (yJ5_inflateIfNeededFor_a7421, cJ5_inflateIfNeededFor_a7421, 2, none)
theorem wJ5_inflateIfNeededFor_a7421 : Cond.code yJ5_inflateIfNeededFor_a7421 cJ5_inflateIfNeededFor_a7421 2 none ∈ lw_all := zi6 217 rfl rfl
theorem iJ5_inflateIfNeededFor_a7421 : Cond.instanceMethod yJ5_inflateIfNeededFor_a7421 ∈ lw_all := zi6 216 rfl rfl
abbrev mJ5_putStringAt_47b60 : zMeth := (yJ5_putStringAt_47b60, cJ5_putStringAt_47b60, 3, none)
theorem wJ5_putStringAt_47b60 : Cond.code yJ5_putStringAt_47b60 cJ5_putStringAt_47b60 3 none ∈ lw_all := zi6 213 rfl rfl
theorem iJ5_putStringAt_47b60 : Cond.instanceMethod yJ5_putStringAt_47b60 ∈ lw_all := zi6 212 rfl rfl
abbrev mJx29ce0_ordinal_8abf5 : zMeth := (yJx29ce0_ordinal_8abf5, cJx29ce0_ordinal_8abf5, 1, (some .int))
theorem wJx29ce0_ordinal_8abf5 : Cond.code yJx29ce0_ordinal_8abf5 cJx29ce0_ordinal_8abf5 1 (some .int) ∈ lw_all := zi7 162 rfl rfl
theorem iJx29ce0_ordinal_8abf5 : Cond.instanceMethod yJx29ce0_ordinal_8abf5 ∈ lw_all := zi7 161 rfl rfl
abbrev mJ6_getChars_ba4f3 : zMeth := (yJ6_getChars_ba4f3, cJ6_getChars_ba4f3, 7, (some .int))
theorem wJ6_getChars_ba4f3 : Cond.code yJ6_getChars_ba4f3 cJ6_getChars_ba4f3 7 (some .int) ∈ lw_all := zi7 16 rfl rfl
theorem sJ6_getChars_ba4f3 : Cond.static yJ6_getChars_ba4f3 ∈ lw_all := zi7 15 rfl rfl
abbrev mJ6_stringSize_0f7a4 : zMeth := (yJ6_stringSize_0f7a4, cJ6_stringSize_0f7a4, 4, (some .int))
theorem wJ6_stringSize_0f7a4 : Cond.code yJ6_stringSize_0f7a4 cJ6_stringSize_0f7a4 4 (some .int) ∈ lw_all := zi7 13 rfl rfl
theorem sJ6_stringSize_0f7a4 : Cond.static yJ6_stringSize_0f7a4 ∈ lw_all := zi7 12 rfl rfl
abbrev mJ6_compare_7cf53 : zMeth := (yJ6_compare_7cf53, cJ6_compare_7cf53, 2, (some .int))
theorem wJ6_compare_7cf53 : Cond.code yJ6_compare_7cf53 cJ6_compare_7cf53 2 (some .int) ∈ lw_all := zi9 69 rfl rfl
theorem sJ6_compare_7cf53 : Cond.static yJ6_compare_7cf53 ∈ lw_all := zi9 68 rfl rfl
abbrev mJ6_bitCount_0f7a4 : zMeth := (yJ6_bitCount_0f7a4, cJ6_bitCount_0f7a4, 1, (some .int))
theorem wJ6_bitCount_0f7a4 : Cond.code yJ6_bitCount_0f7a4 cJ6_bitCount_0f7a4 1 (some .int) ∈ lw_all := zi3 74 rfl rfl
theorem sJ6_bitCount_0f7a4 : Cond.static yJ6_bitCount_0f7a4 ∈ lw_all := zi3 73 rfl rfl
abbrev mJ9_max_7cf53 : zMeth := (yJ9_max_7cf53, cJ9_max_7cf53, 2, (some .int))
theorem wJ9_max_7cf53 : Cond.code yJ9_max_7cf53 cJ9_max_7cf53 2 (some .int) ∈ lw_all := zi3 89 rfl rfl
theorem sJ9_max_7cf53 : Cond.static yJ9_max_7cf53 ∈ lw_all := zi3 88 rfl rfl
abbrev mJ9_min_7cf53 : zMeth := (yJ9_min_7cf53, cJ9_min_7cf53, 2, (some .int))
theorem wJ9_min_7cf53 : Cond.code yJ9_min_7cf53 cJ9_min_7cf53 2 (some .int) ∈ lw_all := zi3 71 rfl rfl
theorem sJ9_min_7cf53 : Cond.static yJ9_min_7cf53 ∈ lw_all := zi3 70 rfl rfl
abbrev mJ9_min_f86c9 : zMeth := (yJ9_min_f86c9, cJ9_min_f86c9, 4, (some .long))
theorem wJ9_min_f86c9 : Cond.code yJ9_min_f86c9 cJ9_min_f86c9 4 (some .long) ∈ lw_all := zi10 54 rfl rfl
theorem sJ9_min_f86c9 : Cond.static yJ9_min_f86c9 ∈ lw_all := zi10 53 rfl rfl
abbrev mJ0_init_81219 : zMeth := (yJ0_init_81219, cJ0_init_81219, 2, none)
theorem wJ0_init_81219 : Cond.code yJ0_init_81219 cJ0_init_81219 2 none ∈ lw_all := zi7 39 rfl rfl
theorem iJ0_init_81219 : Cond.instanceMethod yJ0_init_81219 ∈ lw_all := zi7 38 rfl rfl
abbrev mJ0_length_8abf5 : zMeth := (yJ0_length_8abf5, cJ0_length_8abf5, 1, (some .int))
theorem wJ0_length_8abf5 : Cond.code yJ0_length_8abf5 cJ0_length_8abf5 1 (some .int) ∈ lw_all := zi4 200 rfl rfl
theorem iJ0_length_8abf5 : Cond.instanceMethod yJ0_length_8abf5 ∈ lw_all := zi4 198 rfl rfl
theorem eJ0_length_8abf5 : Cond.selects RJ0 yJ0_length_8abf5 yJ0_length_8abf5 ∈ lw_all := zi4 199 rfl rfl
abbrev mJ0_charAt_5068e : zMeth := (yJ0_charAt_5068e, cJ0_charAt_5068e, 2, (some .char))
theorem wJ0_charAt_5068e : Cond.code yJ0_charAt_5068e cJ0_charAt_5068e 2 (some .char) ∈ lw_all := zi4 209 rfl rfl
theorem iJ0_charAt_5068e : Cond.instanceMethod yJ0_charAt_5068e ∈ lw_all := zi4 207 rfl rfl
theorem eJ0_charAt_5068e : Cond.selects RJ0 yJ0_charAt_5068e yJ0_charAt_5068e ∈ lw_all := zi4 208 rfl rfl
abbrev mJ0_getBytes_840e7 : zMeth := (yJ0_getBytes_840e7, cJ0_getBytes_840e7, 4, none)
theorem wJ0_getBytes_840e7 : Cond.code yJ0_getBytes_840e7 cJ0_getBytes_840e7 4 none ∈ lw_all := zi7 1 rfl rfl
theorem iJ0_getBytes_840e7 : Cond.instanceMethod yJ0_getBytes_840e7 ∈ lw_all := zi6 239 rfl rfl
theorem eJ0_getBytes_840e7 : Cond.selects RJ0 yJ0_getBytes_840e7 yJ0_getBytes_840e7 ∈ lw_all := zi7 0 rfl rfl
abbrev mJ0_init_db425 : zMeth := (yJ0_init_db425, cJ0_init_db425, 5, none)
theorem wJ0_init_db425 : Cond.code yJ0_init_db425 cJ0_init_db425 5 none ∈ lw_all := zi7 42 rfl rfl
theorem iJ0_init_db425 : Cond.instanceMethod yJ0_init_db425 ∈ lw_all := zi7 41 rfl rfl
abbrev mJ0_coder_7d493 : zMeth := (yJ0_coder_7d493, cJ0_coder_7d493, 1, (some .byte))
theorem wJ0_coder_7d493 : Cond.code yJ0_coder_7d493 cJ0_coder_7d493 1 (some .byte) ∈ lw_all := zi4 204 rfl rfl
theorem iJ0_coder_7d493 : Cond.instanceMethod yJ0_coder_7d493 ∈ lw_all := zi4 202 rfl rfl
theorem eJ0_coder_7d493 : Cond.selects RJ0 yJ0_coder_7d493 yJ0_coder_7d493 ∈ lw_all := zi4 203 rfl rfl
abbrev mJ0_isLatin1_aae02 : zMeth := (yJ0_isLatin1_aae02, cJ0_isLatin1_aae02, 1, (some .boolean))
theorem wJ0_isLatin1_aae02 : Cond.code yJ0_isLatin1_aae02 cJ0_isLatin1_aae02 1 (some .boolean) ∈ lw_all := zi4 213 rfl rfl
theorem iJ0_isLatin1_aae02 : Cond.instanceMethod yJ0_isLatin1_aae02 ∈ lw_all := zi4 211 rfl rfl
theorem eJ0_isLatin1_aae02 : Cond.selects RJ0 yJ0_isLatin1_aae02 yJ0_isLatin1_aae02 ∈ lw_all := zi4 212 rfl rfl
abbrev mJ0_checkIndex_df160 : zMeth := (yJ0_checkIndex_df160, cJ0_checkIndex_df160, 2, none)
theorem wJ0_checkIndex_df160 : Cond.code yJ0_checkIndex_df160 cJ0_checkIndex_df160 2 none ∈ lw_all := zi4 52 rfl rfl
theorem sJ0_checkIndex_df160 : Cond.static yJ0_checkIndex_df160 ∈ lw_all := zi4 51 rfl rfl
abbrev mJ0_checkBoundsOffCount_cabcc : zMeth := (yJ0_checkBoundsOffCount_cabcc, cJ0_checkBoundsOffCount_cabcc, 3, (some .int))
theorem wJ0_checkBoundsOffCount_cabcc : Cond.code yJ0_checkBoundsOffCount_cabcc cJ0_checkBoundsOffCount_cabcc 3 (some .int) ∈ lw_all := zi6 234 rfl rfl
theorem sJ0_checkBoundsOffCount_cabcc : Cond.static yJ0_checkBoundsOffCount_cabcc ∈ lw_all := zi6 233 rfl rfl
abbrev mJ0_checkBoundsBeginEnd_23922 : zMeth := (yJ0_checkBoundsBeginEnd_23922, cJ0_checkBoundsBeginEnd_23922, 3, none)
theorem wJ0_checkBoundsBeginEnd_23922 : Cond.code yJ0_checkBoundsBeginEnd_23922 cJ0_checkBoundsBeginEnd_23922 3 none ∈ lw_all := zi6 202 rfl rfl
theorem sJ0_checkBoundsBeginEnd_23922 : Cond.static yJ0_checkBoundsBeginEnd_23922 ∈ lw_all := zi6 201 rfl rfl
abbrev mJ4_init_da8c8 : zMeth := (yJ4_init_da8c8, cJ4_init_da8c8, 1, none)
theorem wJ4_init_da8c8 : Cond.code yJ4_init_da8c8 cJ4_init_da8c8 1 none ∈ lw_all := zi1 42 rfl rfl
theorem iJ4_init_da8c8 : Cond.instanceMethod yJ4_init_da8c8 ∈ lw_all := zi1 41 rfl rfl
abbrev mJ4_append_15ec4 : zMeth := (yJ4_append_15ec4, cJ4_append_15ec4, 2, (some (.object "java/lang/StringBuilder")))
theorem wJ4_append_15ec4 : Cond.code yJ4_append_15ec4 cJ4_append_15ec4 2 (some (.object "java/lang/StringBuilder")) ∈ lw_all := zi6 186 rfl rfl
theorem iJ4_append_15ec4 : Cond.instanceMethod yJ4_append_15ec4 ∈ lw_all := zi6 184 rfl rfl
theorem eJ4_append_15ec4 : Cond.selects RJ4 yJ4_append_15ec4 yJ4_append_15ec4 ∈ lw_all := zi6 185 rfl rfl
abbrev mJ4_append_cf468 : zMeth := (yJ4_append_cf468, cJ4_append_cf468, 2, (some (.object "java/lang/StringBuilder")))
theorem wJ4_append_cf468 : Cond.code yJ4_append_cf468 cJ4_append_cf468 2 (some (.object "java/lang/StringBuilder")) ∈ lw_all := zi7 90 rfl rfl
theorem iJ4_append_cf468 : Cond.instanceMethod yJ4_append_cf468 ∈ lw_all := zi7 88 rfl rfl
theorem eJ4_append_cf468 : Cond.selects RJ4 yJ4_append_cf468 yJ4_append_cf468 ∈ lw_all := zi7 89 rfl rfl
abbrev mJ4_append_bf812 : zMeth := (yJ4_append_bf812, cJ4_append_bf812, 2, (some (.object "java/lang/StringBuilder")))
theorem wJ4_append_bf812 : Cond.code yJ4_append_bf812 cJ4_append_bf812 2 (some (.object "java/lang/StringBuilder")) ∈ lw_all := zi7 7 rfl rfl
theorem iJ4_append_bf812 : Cond.instanceMethod yJ4_append_bf812 ∈ lw_all := zi7 5 rfl rfl
theorem eJ4_append_bf812 : Cond.selects RJ4 yJ4_append_bf812 yJ4_append_bf812 ∈ lw_all := zi7 6 rfl rfl
abbrev mJ4_toString_0e30d : zMeth := (yJ4_toString_0e30d, cJ4_toString_0e30d, 1, (some (.object "java/lang/String")))
theorem wJ4_toString_0e30d : Cond.code yJ4_toString_0e30d cJ4_toString_0e30d 1 (some (.object "java/lang/String")) ∈ lw_all := zi7 34 rfl rfl
theorem iJ4_toString_0e30d : Cond.instanceMethod yJ4_toString_0e30d ∈ lw_all := zi7 32 rfl rfl
theorem eJ4_toString_0e30d : Cond.selects RJ4 yJ4_toString_0e30d yJ4_toString_0e30d ∈ lw_all := zi7 33 rfl rfl
abbrev mJ4_charAt_5068e : zMeth := (yJ4_charAt_5068e, cJ4_charAt_5068e, 2, (some .char))
theorem wJ4_charAt_5068e : Cond.code yJ4_charAt_5068e cJ4_charAt_5068e 2 (some .char) ∈ lw_all := zi4 45 rfl rfl
theorem iJ4_charAt_5068e : Cond.instanceMethod yJ4_charAt_5068e ∈ lw_all := zi4 43 rfl rfl
theorem eJ4_charAt_5068e : Cond.selects RJ4 yJ4_charAt_5068e yJ4_charAt_5068e ∈ lw_all := zi4 44 rfl rfl
abbrev mJ4_setLength_d00df : zMeth := (yJ4_setLength_d00df, cJ4_setLength_d00df, 2, none)
theorem wJ4_setLength_d00df : Cond.code yJ4_setLength_d00df cJ4_setLength_d00df 2 none ∈ lw_all := zi6 132 rfl rfl
theorem iJ4_setLength_d00df : Cond.instanceMethod yJ4_setLength_d00df ∈ lw_all := zi6 130 rfl rfl
theorem eJ4_setLength_d00df : Cond.selects RJ4 yJ4_setLength_d00df yJ4_setLength_d00df ∈ lw_all := zi6 131 rfl rfl
abbrev mJ4_length_8abf5 : zMeth := (yJ4_length_8abf5, cJ4_length_8abf5, 1, (some .int))
theorem wJ4_length_8abf5 : Cond.code yJ4_length_8abf5 cJ4_length_8abf5 1 (some .int) ∈ lw_all := zi4 38 rfl rfl
theorem iJ4_length_8abf5 : Cond.instanceMethod yJ4_length_8abf5 ∈ lw_all := zi4 36 rfl rfl
theorem eJ4_length_8abf5 : Cond.selects RJ4 yJ4_length_8abf5 yJ4_length_8abf5 ∈ lw_all := zi4 37 rfl rfl
abbrev mJ1_charAt_3b067 : zMeth := (yJ1_charAt_3b067, cJ1_charAt_3b067, 2, (some .char))
theorem wJ1_charAt_3b067 : Cond.code yJ1_charAt_3b067 cJ1_charAt_3b067 2 (some .char) ∈ lw_all := zi4 216 rfl rfl
theorem sJ1_charAt_3b067 : Cond.static yJ1_charAt_3b067 ∈ lw_all := zi4 215 rfl rfl
abbrev mJ1_canEncode_fc78d : zMeth := (yJ1_canEncode_fc78d, cJ1_canEncode_fc78d, 1, (some .boolean))
theorem wJ1_canEncode_fc78d : Cond.code yJ1_canEncode_fc78d cJ1_canEncode_fc78d 1 (some .boolean) ∈ lw_all := zi7 96 rfl rfl
theorem sJ1_canEncode_fc78d : Cond.static yJ1_canEncode_fc78d ∈ lw_all := zi7 95 rfl rfl
abbrev mJ1_fillNull_b72d1 : zMeth := (yJ1_fillNull_b72d1, cJ1_fillNull_b72d1, 3, none)
theorem wJ1_fillNull_b72d1 : Cond.code yJ1_fillNull_b72d1 cJ1_fillNull_b72d1 3 none ∈ lw_all := zi6 172 rfl rfl
theorem sJ1_fillNull_b72d1 : Cond.static yJ1_fillNull_b72d1 ∈ lw_all := zi6 171 rfl rfl
abbrev mJ1_inflate_0e8fd : zMeth := (yJ1_inflate_0e8fd, cJ1_inflate_0e8fd, 5, none)
theorem wJ1_inflate_0e8fd : Cond.code yJ1_inflate_0e8fd cJ1_inflate_0e8fd 5 none ∈ lw_all := zi6 225 rfl rfl
theorem sJ1_inflate_0e8fd : Cond.static yJ1_inflate_0e8fd ∈ lw_all := zi6 224 rfl rfl
abbrev mJ2_newBytesFor_77867 : zMeth := (yJ2_newBytesFor_77867, cJ2_newBytesFor_77867, 1, (some (.array .byte)))
theorem wJ2_newBytesFor_77867 : Cond.code yJ2_newBytesFor_77867 cJ2_newBytesFor_77867 1 (some (.array .byte)) ∈ lw_all := zi1 51 rfl rfl
theorem sJ2_newBytesFor_77867 : Cond.static yJ2_newBytesFor_77867 ∈ lw_all := zi1 50 rfl rfl
abbrev mJ2_newBytesLength_0f7a4 : zMeth := (yJ2_newBytesLength_0f7a4, cJ2_newBytesLength_0f7a4, 1, (some .int))
theorem wJ2_newBytesLength_0f7a4 : Cond.code yJ2_newBytesLength_0f7a4 cJ2_newBytesLength_0f7a4 1 (some .int) ∈ lw_all := zi1 54 rfl rfl
theorem sJ2_newBytesLength_0f7a4 : Cond.static yJ2_newBytesLength_0f7a4 ∈ lw_all := zi1 53 rfl rfl
abbrev mJ2_putChar_b72d1 : zMeth := (yJ2_putChar_b72d1, cJ2_putChar_b72d1, 3, none)
theorem wJ2_putChar_b72d1 : Cond.code yJ2_putChar_b72d1 cJ2_putChar_b72d1 3 none ∈ lw_all := zi6 208 rfl rfl
theorem sJ2_putChar_b72d1 : Cond.static yJ2_putChar_b72d1 ∈ lw_all := zi6 207 rfl rfl
abbrev mJ2_getChar_3b067 : zMeth := (yJ2_getChar_3b067, cJ2_getChar_3b067, 2, (some .char))
theorem wJ2_getChar_3b067 : Cond.code yJ2_getChar_3b067 cJ2_getChar_3b067 2 (some .char) ∈ lw_all := zi4 60 rfl rfl
theorem sJ2_getChar_3b067 : Cond.static yJ2_getChar_3b067 ∈ lw_all := zi4 59 rfl rfl
abbrev mJ2_length_9d52b : zMeth := (yJ2_length_9d52b, cJ2_length_9d52b, 1, (some .int))
theorem wJ2_length_9d52b : Cond.code yJ2_length_9d52b cJ2_length_9d52b 1 (some .int) ∈ lw_all := zi4 65 rfl rfl
theorem sJ2_length_9d52b : Cond.static yJ2_length_9d52b ∈ lw_all := zi4 64 rfl rfl
abbrev mJ2_coderFromArrayLen_85cad : zMeth := (yJ2_coderFromArrayLen_85cad, cJ2_coderFromArrayLen_85cad, 2, (some .byte))
theorem wJ2_coderFromArrayLen_85cad : Cond.code yJ2_coderFromArrayLen_85cad cJ2_coderFromArrayLen_85cad 2 (some .byte) ∈ lw_all := zi7 71 rfl rfl
theorem sJ2_coderFromArrayLen_85cad : Cond.static yJ2_coderFromArrayLen_85cad ∈ lw_all := zi7 70 rfl rfl
abbrev mJ2_compress_39247 : zMeth := (yJ2_compress_39247, cJ2_compress_39247, 6, (some (.array .byte)))
theorem wJ2_compress_39247 : Cond.code yJ2_compress_39247 cJ2_compress_39247 6 (some (.array .byte)) ∈ lw_all := zi7 64 rfl rfl
theorem sJ2_compress_39247 : Cond.static yJ2_compress_39247 ∈ lw_all := zi7 63 rfl rfl
abbrev mJ2_compress_5af95 : zMeth := (yJ2_compress_5af95, cJ2_compress_5af95, 7, (some .int))
theorem wJ2_compress_5af95 : Cond.code yJ2_compress_5af95 cJ2_compress_5af95 7 (some .int) ∈ lw_all := zi7 67 rfl rfl
theorem sJ2_compress_5af95 : Cond.static yJ2_compress_5af95 ∈ lw_all := zi7 66 rfl rfl
abbrev mJ2_fillNull_b72d1 : zMeth := (yJ2_fillNull_b72d1, cJ2_fillNull_b72d1, 3, none)
theorem wJ2_fillNull_b72d1 : Cond.code yJ2_fillNull_b72d1 cJ2_fillNull_b72d1 3 none ∈ lw_all := zi7 85 rfl rfl
theorem sJ2_fillNull_b72d1 : Cond.static yJ2_fillNull_b72d1 ∈ lw_all := zi7 84 rfl rfl
abbrev mJ2_putCharSB_b72d1 : zMeth := (yJ2_putCharSB_b72d1, cJ2_putCharSB_b72d1, 3, none)
theorem wJ2_putCharSB_b72d1 : Cond.code yJ2_putCharSB_b72d1 cJ2_putCharSB_b72d1 3 none ∈ lw_all := zi7 99 rfl rfl
theorem sJ2_putCharSB_b72d1 : Cond.static yJ2_putCharSB_b72d1 ∈ lw_all := zi7 98 rfl rfl
abbrev mJ2_getChars_46870 : zMeth := (yJ2_getChars_46870, cJ2_getChars_46870, 5, (some .int))
theorem wJ2_getChars_46870 : Cond.code yJ2_getChars_46870 cJ2_getChars_46870 5 (some .int) ∈ lw_all := zi7 23 rfl rfl
theorem sJ2_getChars_46870 : Cond.static yJ2_getChars_46870 ∈ lw_all := zi7 22 rfl rfl
abbrev mJ2_putCharsAt_cd4e5 : zMeth := (yJ2_putCharsAt_cd4e5, cJ2_putCharsAt_cd4e5, 7, (some .int))
theorem wJ2_putCharsAt_cd4e5 : Cond.code yJ2_putCharsAt_cd4e5 cJ2_putCharsAt_cd4e5 7 (some .int) ∈ lw_all := zi6 196 rfl rfl
theorem sJ2_putCharsAt_cd4e5 : Cond.static yJ2_putCharsAt_cd4e5 ∈ lw_all := zi6 195 rfl rfl
abbrev mJ2_charAt_3b067 : zMeth := (yJ2_charAt_3b067, cJ2_charAt_3b067, 2, (some .char))
theorem wJ2_charAt_3b067 : Cond.code yJ2_charAt_3b067 cJ2_charAt_3b067 2 (some .char) ∈ lw_all := zi4 220 rfl rfl
theorem sJ2_charAt_3b067 : Cond.static yJ2_charAt_3b067 ∈ lw_all := zi4 219 rfl rfl
abbrev mJ2_inflate_0e8fd : zMeth := (yJ2_inflate_0e8fd, cJ2_inflate_0e8fd, 6, none)
theorem wJ2_inflate_0e8fd : Cond.code yJ2_inflate_0e8fd cJ2_inflate_0e8fd 6 none ∈ lw_all := zi6 228 rfl rfl
theorem sJ2_inflate_0e8fd : Cond.static yJ2_inflate_0e8fd ∈ lw_all := zi6 227 rfl rfl
abbrev mJ2_getChars_ba4f3 : zMeth := (yJ2_getChars_ba4f3, cJ2_getChars_ba4f3, 7, (some .int))
theorem wJ2_getChars_ba4f3 : Cond.code yJ2_getChars_ba4f3 cJ2_getChars_ba4f3 7 (some .int) ∈ lw_all := zi7 26 rfl rfl
theorem sJ2_getChars_ba4f3 : Cond.static yJ2_getChars_ba4f3 ∈ lw_all := zi7 25 rfl rfl
abbrev mJ2_checkIndex_2214a : zMeth := (yJ2_checkIndex_2214a, cJ2_checkIndex_2214a, 2, none)
theorem wJ2_checkIndex_2214a : Cond.code yJ2_checkIndex_2214a cJ2_checkIndex_2214a 2 none ∈ lw_all := zi4 223 rfl rfl
theorem sJ2_checkIndex_2214a : Cond.static yJ2_checkIndex_2214a ∈ lw_all := zi4 222 rfl rfl
abbrev mJ2_checkBoundsBeginEnd_d044e : zMeth := (yJ2_checkBoundsBeginEnd_d044e, cJ2_checkBoundsBeginEnd_d044e, 3, none)
theorem wJ2_checkBoundsBeginEnd_d044e : Cond.code yJ2_checkBoundsBeginEnd_d044e cJ2_checkBoundsBeginEnd_d044e 3 none ∈ lw_all := zi6 199 rfl rfl
theorem sJ2_checkBoundsBeginEnd_d044e : Cond.static yJ2_checkBoundsBeginEnd_d044e ∈ lw_all := zi6 198 rfl rfl
abbrev mJ2_checkBoundsOffCount_d044e : zMeth := (yJ2_checkBoundsOffCount_d044e, cJ2_checkBoundsOffCount_d044e, 3, none)
theorem wJ2_checkBoundsOffCount_d044e : Cond.code yJ2_checkBoundsOffCount_d044e cJ2_checkBoundsOffCount_d044e 3 none ∈ lw_all := zi6 231 rfl rfl
theorem sJ2_checkBoundsOffCount_d044e : Cond.static yJ2_checkBoundsOffCount_d044e ∈ lw_all := zi6 230 rfl rfl
abbrev mJ7_rangeCheck_23922 : zMeth := (yJ7_rangeCheck_23922, cJ7_rangeCheck_23922, 3, none)
theorem wJ7_rangeCheck_23922 : Cond.code yJ7_rangeCheck_23922 cJ7_rangeCheck_23922 3 none ∈ lw_all := zi6 178 rfl rfl
theorem sJ7_rangeCheck_23922 : Cond.static yJ7_rangeCheck_23922 ∈ lw_all := zi6 177 rfl rfl
abbrev mJ7_fill_53178 : zMeth := (yJ7_fill_53178, cJ7_fill_53178, 4, none)
theorem wJ7_fill_53178 : Cond.code yJ7_fill_53178 cJ7_fill_53178 4 none ∈ lw_all := zi2 215 rfl rfl
theorem sJ7_fill_53178 : Cond.static yJ7_fill_53178 ∈ lw_all := zi2 214 rfl rfl
abbrev mJ7_fill_eb02e : zMeth := (yJ7_fill_eb02e, cJ7_fill_eb02e, 5, none)
theorem wJ7_fill_eb02e : Cond.code yJ7_fill_eb02e cJ7_fill_eb02e 5 none ∈ lw_all := zi6 175 rfl rfl
theorem sJ7_fill_eb02e : Cond.static yJ7_fill_eb02e ∈ lw_all := zi6 174 rfl rfl
abbrev mJ7_copyOf_9075b : zMeth := (yJ7_copyOf_9075b, cJ7_copyOf_9075b, 3, (some (.array .byte)))
theorem wJ7_copyOf_9075b : Cond.code yJ7_copyOf_9075b cJ7_copyOf_9075b 3 (some (.array .byte)) ∈ lw_all := zi6 155 rfl rfl
theorem sJ7_copyOf_9075b : Cond.static yJ7_copyOf_9075b ∈ lw_all := zi6 154 rfl rfl
abbrev mJ7_checkLength_df160 : zMeth := (yJ7_checkLength_df160, cJ7_checkLength_df160, 2, none)
theorem wJ7_checkLength_df160 : Cond.code yJ7_checkLength_df160 cJ7_checkLength_df160 2 none ∈ lw_all := zi7 59 rfl rfl
theorem sJ7_checkLength_df160 : Cond.static yJ7_checkLength_df160 ∈ lw_all := zi7 58 rfl rfl
abbrev mJ7_copyOfRange_39247 : zMeth := (yJ7_copyOfRange_39247, cJ7_copyOfRange_39247, 3, (some (.array .byte)))
theorem wJ7_copyOfRange_39247 : Cond.code yJ7_copyOfRange_39247 cJ7_copyOfRange_39247 3 (some (.array .byte)) ∈ lw_all := zi7 53 rfl rfl
theorem sJ7_copyOfRange_39247 : Cond.static yJ7_copyOfRange_39247 ∈ lw_all := zi7 52 rfl rfl
abbrev mJ7_copyOfRangeByte_39247 : zMeth := (yJ7_copyOfRangeByte_39247, cJ7_copyOfRangeByte_39247, 5, (some (.array .byte)))
theorem wJ7_copyOfRangeByte_39247 : Cond.code yJ7_copyOfRangeByte_39247 cJ7_copyOfRangeByte_39247 5 (some (.array .byte)) ∈ lw_all := zi7 56 rfl rfl
theorem sJ7_copyOfRangeByte_39247 : Cond.static yJ7_copyOfRangeByte_39247 ∈ lw_all := zi7 55 rfl rfl
abbrev mJ8_newLength_cabcc : zMeth := (yJ8_newLength_cabcc, cJ8_newLength_cabcc, 4, (some .int))
theorem wJ8_newLength_cabcc : Cond.code yJ8_newLength_cabcc cJ8_newLength_cabcc 4 (some .int) ∈ lw_all := zi6 146 rfl rfl
theorem sJ8_newLength_cabcc : Cond.static yJ8_newLength_cabcc ∈ lw_all := zi6 145 rfl rfl
abbrev mJ8_hugeLength_7cf53 : zMeth := (yJ8_hugeLength_7cf53, cJ8_hugeLength_7cf53, 3, (some .int))
theorem wJ8_hugeLength_7cf53 : Cond.code yJ8_hugeLength_7cf53 cJ8_hugeLength_7cf53 3 (some .int) ∈ lw_all := zi6 151 rfl rfl
theorem sJ8_hugeLength_7cf53 : Cond.static yJ8_hugeLength_7cf53 ∈ lw_all := zi6 150 rfl rfl
abbrev mJ3_checkIndex_8e157 : zMeth := (yJ3_checkIndex_8e157, cJ3_checkIndex_8e157, 3, (some .int))
theorem wJ3_checkIndex_8e157 : Cond.code yJ3_checkIndex_8e157 cJ3_checkIndex_8e157 3 (some .int) ∈ lw_all := zi4 57 rfl rfl
theorem sJ3_checkIndex_8e157 : Cond.static yJ3_checkIndex_8e157 ∈ lw_all := zi4 56 rfl rfl
abbrev mJ3_checkFromToIndex_8c36e : zMeth := (yJ3_checkFromToIndex_8c36e, cJ3_checkFromToIndex_8c36e, 4, (some .int))
theorem wJ3_checkFromToIndex_8c36e : Cond.code yJ3_checkFromToIndex_8c36e cJ3_checkFromToIndex_8c36e 4 (some .int) ∈ lw_all := zi6 205 rfl rfl
theorem sJ3_checkFromToIndex_8c36e : Cond.static yJ3_checkFromToIndex_8c36e ∈ lw_all := zi6 204 rfl rfl
abbrev mJ3_checkFromIndexSize_8c36e : zMeth := (yJ3_checkFromIndexSize_8c36e, cJ3_checkFromIndexSize_8c36e, 4, (some .int))
theorem wJ3_checkFromIndexSize_8c36e : Cond.code yJ3_checkFromIndexSize_8c36e cJ3_checkFromIndexSize_8c36e 4 (some .int) ∈ lw_all := zi6 237 rfl rfl
theorem sJ3_checkFromIndexSize_8c36e : Cond.static yJ3_checkFromIndexSize_8c36e ∈ lw_all := zi6 236 rfl rfl
theorem sL_load : Cond.static yL_load ∈ lw_all := zi4 92 rfl rfl
theorem sL_size : Cond.static yL_size ∈ lw_all := zi5 65 rfl rfl
theorem sL_house : Cond.static yL_house ∈ lw_all := zi5 94 rfl rfl
theorem sL_screen : Cond.static yL_screen ∈ lw_all := zi5 112 rfl rfl
theorem sL_film : Cond.static yL_film ∈ lw_all := zi5 125 rfl rfl
theorem sL_term : Cond.static yL_term ∈ lw_all := zi5 142 rfl rfl
theorem sL_prints : Cond.static yL_prints ∈ lw_all := zi5 150 rfl rfl
theorem sL_shown : Cond.static yL_shown ∈ lw_all := zi5 163 rfl rfl
theorem sL_visitors : Cond.static yL_visitors ∈ lw_all := zi5 176 rfl rfl
theorem sL_share : Cond.static yL_share ∈ lw_all := zi5 184 rfl rfl
theorem sL_run : Cond.static yL_run ∈ lw_all := zi5 192 rfl rfl
theorem sL_wouldHold : Cond.static yL_wouldHold ∈ lw_all := zi5 200 rfl rfl
theorem sL_forecast : Cond.static yL_forecast ∈ lw_all := zi5 208 rfl rfl
theorem sL_chart : Cond.static yL_chart ∈ lw_all := zi5 219 rfl rfl
theorem sL_bestGain : Cond.static yL_bestGain ∈ lw_all := zi5 235 rfl rfl
theorem sL_bestFilm : Cond.static yL_bestFilm ∈ lw_all := zi6 3 rfl rfl
theorem sL_total : Cond.static yL_total ∈ lw_all := zi6 22 rfl rfl
theorem sL_closed : Cond.static yL_closed ∈ lw_all := zi6 29 rfl rfl
theorem sL_book : Cond.static yL_book ∈ lw_all := zi6 41 rfl rfl
theorem sL_split : Cond.static yL_split ∈ lw_all := zi6 58 rfl rfl
theorem sL_empty : Cond.static yL_empty ∈ lw_all := zi6 66 rfl rfl
theorem sL_move : Cond.static yL_move ∈ lw_all := zi6 73 rfl rfl
theorem sL_program : Cond.static yL_program ∈ lw_all := zi6 83 rfl rfl
theorem sL_setHoldover : Cond.static yL_setHoldover ∈ lw_all := zi6 99 rfl rfl
theorem sL_setRent : Cond.static yL_setRent ∈ lw_all := zi6 107 rfl rfl
theorem sL_setFee : Cond.static yL_setFee ∈ lw_all := zi6 115 rfl rfl
theorem sL_format : Cond.static yL_format ∈ lw_all := zi6 123 rfl rfl
theorem sL_query : Cond.static yL_query ∈ lw_all := zi7 108 rfl rfl
theorem zCX1 : zCl 1 RX1 TX1 13 tyX1 := ⟨rfl, rfl, List.forall_mem_cons.mpr ⟨zi1 136 rfl rfl, List.forall_mem_cons.mpr ⟨zi1 138 rfl rfl, List.forall_mem_cons.mpr ⟨zi1 140 rfl rfl, List.forall_mem_cons.mpr ⟨zi1 142 rfl rfl, List.forall_mem_cons.mpr ⟨zi1 144 rfl rfl, List.forall_mem_cons.mpr ⟨zi1 146 rfl rfl, List.forall_mem_cons.mpr ⟨zi1 148 rfl rfl, List.forall_mem_cons.mpr ⟨zi1 150 rfl rfl, List.forall_mem_cons.mpr ⟨zi1 152 rfl rfl, List.forall_mem_cons.mpr ⟨zi1 154 rfl rfl, List.forall_mem_cons.mpr ⟨zi1 156 rfl rfl, List.forall_mem_cons.mpr ⟨zi1 158 rfl rfl, List.forall_mem_cons.mpr ⟨zi1 160 rfl rfl, fun _ h => nomatch h⟩⟩⟩⟩⟩⟩⟩⟩⟩⟩⟩⟩⟩, tyX1_ok, by decide +kernel, nmX1⟩
theorem zCX2 : zCl 2 RX2 TX2 3 tyX2 := ⟨rfl, rfl, List.forall_mem_cons.mpr ⟨zi2 183 rfl rfl, List.forall_mem_cons.mpr ⟨zi2 185 rfl rfl, List.forall_mem_cons.mpr ⟨zi2 187 rfl rfl, fun _ h => nomatch h⟩⟩⟩, tyX2_ok, by decide +kernel, nmX2⟩
theorem zCX3 : zCl 3 RX3 TX3 4 tyX3 := ⟨rfl, rfl, List.forall_mem_cons.mpr ⟨zi2 94 rfl rfl, List.forall_mem_cons.mpr ⟨zi2 96 rfl rfl, List.forall_mem_cons.mpr ⟨zi2 98 rfl rfl, List.forall_mem_cons.mpr ⟨zi2 100 rfl rfl, fun _ h => nomatch h⟩⟩⟩⟩, tyX3_ok, by decide +kernel, nmX3⟩
theorem zCX4 : zCl 4 RX4 TX4 5 tyX4 := ⟨rfl, rfl, List.forall_mem_cons.mpr ⟨zi2 120 rfl rfl, List.forall_mem_cons.mpr ⟨zi2 122 rfl rfl, List.forall_mem_cons.mpr ⟨zi2 124 rfl rfl, List.forall_mem_cons.mpr ⟨zi2 126 rfl rfl, List.forall_mem_cons.mpr ⟨zi2 128 rfl rfl, fun _ h => nomatch h⟩⟩⟩⟩⟩, tyX4_ok, by decide +kernel, nmX4⟩
theorem zCX5 : zCl 5 RX5 TX5 14 tyX5 := ⟨rfl, rfl, List.forall_mem_cons.mpr ⟨zi2 55 rfl rfl, List.forall_mem_cons.mpr ⟨zi2 57 rfl rfl, List.forall_mem_cons.mpr ⟨zi2 59 rfl rfl, List.forall_mem_cons.mpr ⟨zi2 61 rfl rfl, List.forall_mem_cons.mpr ⟨zi2 63 rfl rfl, List.forall_mem_cons.mpr ⟨zi2 65 rfl rfl, List.forall_mem_cons.mpr ⟨zi2 67 rfl rfl, List.forall_mem_cons.mpr ⟨zi2 69 rfl rfl, List.forall_mem_cons.mpr ⟨zi2 71 rfl rfl, List.forall_mem_cons.mpr ⟨zi2 73 rfl rfl, List.forall_mem_cons.mpr ⟨zi2 75 rfl rfl, List.forall_mem_cons.mpr ⟨zi2 77 rfl rfl, List.forall_mem_cons.mpr ⟨zi2 79 rfl rfl, List.forall_mem_cons.mpr ⟨zi2 81 rfl rfl, fun _ h => nomatch h⟩⟩⟩⟩⟩⟩⟩⟩⟩⟩⟩⟩⟩⟩, tyX5_ok, by decide +kernel, nmX5⟩
theorem zCX7 : zCl 7 RX7 TX7 4 tyX7 := ⟨rfl, rfl, List.forall_mem_cons.mpr ⟨zi2 200 rfl rfl, List.forall_mem_cons.mpr ⟨zi2 202 rfl rfl, List.forall_mem_cons.mpr ⟨zi2 204 rfl rfl, List.forall_mem_cons.mpr ⟨zi2 206 rfl rfl, fun _ h => nomatch h⟩⟩⟩⟩, tyX7_ok, by decide +kernel, nmX7⟩
theorem zCX8 : zCl 8 RX8 TX8 16 tyX8 := ⟨rfl, rfl, List.forall_mem_cons.mpr ⟨zi1 223 rfl rfl, List.forall_mem_cons.mpr ⟨zi1 225 rfl rfl, List.forall_mem_cons.mpr ⟨zi1 227 rfl rfl, List.forall_mem_cons.mpr ⟨zi1 229 rfl rfl, List.forall_mem_cons.mpr ⟨zi1 231 rfl rfl, List.forall_mem_cons.mpr ⟨zi1 233 rfl rfl, List.forall_mem_cons.mpr ⟨zi1 235 rfl rfl, List.forall_mem_cons.mpr ⟨zi1 237 rfl rfl, List.forall_mem_cons.mpr ⟨zi1 239 rfl rfl, List.forall_mem_cons.mpr ⟨zi2 1 rfl rfl, List.forall_mem_cons.mpr ⟨zi2 3 rfl rfl, List.forall_mem_cons.mpr ⟨zi2 5 rfl rfl, List.forall_mem_cons.mpr ⟨zi2 7 rfl rfl, List.forall_mem_cons.mpr ⟨zi2 9 rfl rfl, List.forall_mem_cons.mpr ⟨zi2 11 rfl rfl, List.forall_mem_cons.mpr ⟨zi2 13 rfl rfl, fun _ h => nomatch h⟩⟩⟩⟩⟩⟩⟩⟩⟩⟩⟩⟩⟩⟩⟩⟩, tyX8_ok, by decide +kernel, nmX8⟩
theorem zCX9 : zCl 9 RX9 TX9 8 tyX9 := ⟨rfl, rfl, List.forall_mem_cons.mpr ⟨zi2 151 rfl rfl, List.forall_mem_cons.mpr ⟨zi2 153 rfl rfl, List.forall_mem_cons.mpr ⟨zi2 155 rfl rfl, List.forall_mem_cons.mpr ⟨zi2 157 rfl rfl, List.forall_mem_cons.mpr ⟨zi2 159 rfl rfl, List.forall_mem_cons.mpr ⟨zi2 161 rfl rfl, List.forall_mem_cons.mpr ⟨zi2 163 rfl rfl, List.forall_mem_cons.mpr ⟨zi2 165 rfl rfl, fun _ h => nomatch h⟩⟩⟩⟩⟩⟩⟩⟩, tyX9_ok, by decide +kernel, nmX9⟩
theorem zCX10 : zCl 10 RX10 TX10 4 tyX10 := ⟨rfl, rfl, List.forall_mem_cons.mpr ⟨zi2 26 rfl rfl, List.forall_mem_cons.mpr ⟨zi2 28 rfl rfl, List.forall_mem_cons.mpr ⟨zi2 30 rfl rfl, List.forall_mem_cons.mpr ⟨zi2 32 rfl rfl, fun _ h => nomatch h⟩⟩⟩⟩, tyX10_ok, by decide +kernel, nmX10⟩
theorem zCX11 : zCl 11 RX11 TX11 13 tyX11 := ⟨rfl, rfl, List.forall_mem_cons.mpr ⟨zi2 229 rfl rfl, List.forall_mem_cons.mpr ⟨zi2 231 rfl rfl, List.forall_mem_cons.mpr ⟨zi2 233 rfl rfl, List.forall_mem_cons.mpr ⟨zi2 235 rfl rfl, List.forall_mem_cons.mpr ⟨zi2 237 rfl rfl, List.forall_mem_cons.mpr ⟨zi2 239 rfl rfl, List.forall_mem_cons.mpr ⟨zi3 1 rfl rfl, List.forall_mem_cons.mpr ⟨zi3 3 rfl rfl, List.forall_mem_cons.mpr ⟨zi3 5 rfl rfl, List.forall_mem_cons.mpr ⟨zi3 7 rfl rfl, List.forall_mem_cons.mpr ⟨zi3 9 rfl rfl, List.forall_mem_cons.mpr ⟨zi3 11 rfl rfl, List.forall_mem_cons.mpr ⟨zi3 13 rfl rfl, fun _ h => nomatch h⟩⟩⟩⟩⟩⟩⟩⟩⟩⟩⟩⟩⟩, tyX11_ok, by decide +kernel, nmX11⟩
theorem zCX12 : zCl 12 RX12 TX12 32 tyX12 := ⟨rfl, rfl, List.forall_mem_cons.mpr ⟨zi7 238 rfl rfl, List.forall_mem_cons.mpr ⟨zi8 0 rfl rfl, List.forall_mem_cons.mpr ⟨zi8 2 rfl rfl, List.forall_mem_cons.mpr ⟨zi8 4 rfl rfl, List.forall_mem_cons.mpr ⟨zi8 6 rfl rfl, List.forall_mem_cons.mpr ⟨zi8 8 rfl rfl, List.forall_mem_cons.mpr ⟨zi8 10 rfl rfl, List.forall_mem_cons.mpr ⟨zi8 12 rfl rfl, List.forall_mem_cons.mpr ⟨zi8 14 rfl rfl, List.forall_mem_cons.mpr ⟨zi8 16 rfl rfl, List.forall_mem_cons.mpr ⟨zi8 18 rfl rfl, List.forall_mem_cons.mpr ⟨zi8 20 rfl rfl, List.forall_mem_cons.mpr ⟨zi8 22 rfl rfl, List.forall_mem_cons.mpr ⟨zi8 24 rfl rfl, List.forall_mem_cons.mpr ⟨zi8 26 rfl rfl, List.forall_mem_cons.mpr ⟨zi8 28 rfl rfl, List.forall_mem_cons.mpr ⟨zi8 30 rfl rfl, List.forall_mem_cons.mpr ⟨zi8 32 rfl rfl, List.forall_mem_cons.mpr ⟨zi8 34 rfl rfl, List.forall_mem_cons.mpr ⟨zi8 36 rfl rfl, List.forall_mem_cons.mpr ⟨zi8 38 rfl rfl, List.forall_mem_cons.mpr ⟨zi8 40 rfl rfl, List.forall_mem_cons.mpr ⟨zi8 42 rfl rfl, List.forall_mem_cons.mpr ⟨zi8 44 rfl rfl, List.forall_mem_cons.mpr ⟨zi8 46 rfl rfl, List.forall_mem_cons.mpr ⟨zi8 48 rfl rfl, List.forall_mem_cons.mpr ⟨zi8 50 rfl rfl, List.forall_mem_cons.mpr ⟨zi8 52 rfl rfl, List.forall_mem_cons.mpr ⟨zi8 54 rfl rfl, List.forall_mem_cons.mpr ⟨zi8 56 rfl rfl, List.forall_mem_cons.mpr ⟨zi8 58 rfl rfl, List.forall_mem_cons.mpr ⟨zi8 60 rfl rfl, fun _ h => nomatch h⟩⟩⟩⟩⟩⟩⟩⟩⟩⟩⟩⟩⟩⟩⟩⟩⟩⟩⟩⟩⟩⟩⟩⟩⟩⟩⟩⟩⟩⟩⟩⟩, tyX12_ok, by decide +kernel, nmX12⟩
theorem zCJ4 : zCl 13 RJ4 TJ4 4 tyJ4 := ⟨rfl, rfl, List.forall_mem_cons.mpr ⟨zi1 61 rfl rfl, List.forall_mem_cons.mpr ⟨zi1 63 rfl rfl, List.forall_mem_cons.mpr ⟨zi1 65 rfl rfl, List.forall_mem_cons.mpr ⟨zi1 67 rfl rfl, fun _ h => nomatch h⟩⟩⟩⟩, tyJ4_ok, by decide +kernel, nmJ4⟩
theorem pX1_init_9 : zFP yX1_init 9 1 1 2 := ⟨_, _, _, _, zCX1, by decide, rfl, zi1 83 rfl rfl, Or.inr ⟨rfl, rfl, rfl⟩⟩
theorem pX1_init_15 : zFP yX1_init 15 1 2 2 := ⟨_, _, _, _, zCX1, by decide, rfl, zi1 88 rfl rfl, Or.inr ⟨rfl, rfl, rfl⟩⟩
theorem pX1_init_18 : zFP yX1_init 18 1 4 2 := ⟨_, _, _, _, zCX1, by decide, rfl, zi1 98 rfl rfl, Or.inr ⟨rfl, rfl, rfl⟩⟩
theorem pX1_init_21 : zFP yX1_init 21 1 5 2 := ⟨_, _, _, _, zCX1, by decide, rfl, zi1 104 rfl rfl, Or.inr ⟨rfl, rfl, rfl⟩⟩
theorem pX1_init_24 : zFP yX1_init 24 1 6 2 := ⟨_, _, _, _, zCX1, by decide, rfl, zi1 108 rfl rfl, Or.inr ⟨rfl, rfl, rfl⟩⟩
theorem pX1_init_27 : zFP yX1_init 27 1 8 2 := ⟨_, _, _, _, zCX1, by decide, rfl, zi1 117 rfl rfl, Or.inr ⟨rfl, rfl, rfl⟩⟩
theorem pX1_init_30 : zFP yX1_init 30 1 9 2 := ⟨_, _, _, _, zCX1, by decide, rfl, zi1 120 rfl rfl, Or.inr ⟨rfl, rfl, rfl⟩⟩
theorem pX1_init_33 : zFP yX1_init 33 1 10 2 := ⟨_, _, _, _, zCX1, by decide, rfl, zi1 124 rfl rfl, Or.inr ⟨rfl, rfl, rfl⟩⟩
theorem pX1_init_36 : zFP yX1_init 36 1 11 2 := ⟨_, _, _, _, zCX1, by decide, rfl, zi1 128 rfl rfl, Or.inr ⟨rfl, rfl, rfl⟩⟩
theorem pX1_init_39 : zFP yX1_init 39 1 12 2 := ⟨_, _, _, _, zCX1, by decide, rfl, zi1 132 rfl rfl, Or.inr ⟨rfl, rfl, rfl⟩⟩
theorem pX1_clear_42 : zFP yX1_clear 42 1 0 0 := ⟨_, _, _, _, zCX1, by decide, rfl, zi1 77 rfl rfl, Or.inl rfl⟩
theorem pX1_clear_46 : zFP yX1_clear 46 1 3 0 := ⟨_, _, _, _, zCX1, by decide, rfl, zi1 91 rfl rfl, Or.inl rfl⟩
theorem pX1_clear_49 : zFP yX1_clear 49 1 7 0 := ⟨_, _, _, _, zCX1, by decide, rfl, zi1 111 rfl rfl, Or.inl rfl⟩
theorem gX1_42 : zFL RX1 42 1 0 0 := ⟨_, _, _, _, zCX1, by decide, rfl, zi1 77 rfl rfl⟩
theorem pX1_copyFrom_42 : zFP yX1_copyFrom 42 1 0 0 := ⟨_, _, _, _, zCX1, by decide, rfl, zi1 77 rfl rfl, Or.inl rfl⟩
theorem gX1_9 : zFL RX1 9 1 1 2 := ⟨_, _, _, _, zCX1, by decide, rfl, zi1 83 rfl rfl⟩
theorem gX1_15 : zFL RX1 15 1 2 2 := ⟨_, _, _, _, zCX1, by decide, rfl, zi1 88 rfl rfl⟩
theorem gX1_46 : zFL RX1 46 1 3 0 := ⟨_, _, _, _, zCX1, by decide, rfl, zi1 91 rfl rfl⟩
theorem pX1_copyFrom_46 : zFP yX1_copyFrom 46 1 3 0 := ⟨_, _, _, _, zCX1, by decide, rfl, zi1 91 rfl rfl, Or.inl rfl⟩
theorem gX1_18 : zFL RX1 18 1 4 2 := ⟨_, _, _, _, zCX1, by decide, rfl, zi1 98 rfl rfl⟩
theorem gX1_21 : zFL RX1 21 1 5 2 := ⟨_, _, _, _, zCX1, by decide, rfl, zi1 104 rfl rfl⟩
theorem gX1_24 : zFL RX1 24 1 6 2 := ⟨_, _, _, _, zCX1, by decide, rfl, zi1 108 rfl rfl⟩
theorem gX1_49 : zFL RX1 49 1 7 0 := ⟨_, _, _, _, zCX1, by decide, rfl, zi1 111 rfl rfl⟩
theorem pX1_copyFrom_49 : zFP yX1_copyFrom 49 1 7 0 := ⟨_, _, _, _, zCX1, by decide, rfl, zi1 111 rfl rfl, Or.inl rfl⟩
theorem gX1_27 : zFL RX1 27 1 8 2 := ⟨_, _, _, _, zCX1, by decide, rfl, zi1 117 rfl rfl⟩
theorem gX1_30 : zFL RX1 30 1 9 2 := ⟨_, _, _, _, zCX1, by decide, rfl, zi1 120 rfl rfl⟩
theorem gX1_33 : zFL RX1 33 1 10 2 := ⟨_, _, _, _, zCX1, by decide, rfl, zi1 124 rfl rfl⟩
theorem gX1_36 : zFL RX1 36 1 11 2 := ⟨_, _, _, _, zCX1, by decide, rfl, zi1 128 rfl rfl⟩
theorem gX1_39 : zFL RX1 39 1 12 2 := ⟨_, _, _, _, zCX1, by decide, rfl, zi1 132 rfl rfl⟩
theorem pX2_init_12 : zFP yX2_init 12 2 1 2 := ⟨_, _, _, _, zCX2, by decide, rfl, zi2 179 rfl rfl, Or.inr ⟨rfl, rfl, rfl⟩⟩
theorem pX2_init_21 : zFP yX2_init 21 2 2 2 := ⟨_, _, _, _, zCX2, by decide, rfl, zi2 181 rfl rfl, Or.inr ⟨rfl, rfl, rfl⟩⟩
theorem pX2_init_25 : zFP yX2_init 25 2 0 2 := ⟨_, _, _, _, zCX2, by decide, rfl, zi2 178 rfl rfl, Or.inr ⟨rfl, rfl, rfl⟩⟩
theorem gX2_12 : zFL RX2 12 2 1 2 := ⟨_, _, _, _, zCX2, by decide, rfl, zi2 179 rfl rfl⟩
theorem kX2_29 : zCL RX2 29 mX1_clear 0 := ⟨zi4 173 rfl rfl, wX1_clear, zi1 6 rfl rfl, ⟨by decide, by decide, by decide +kernel⟩, by decide⟩
theorem gX2_21 : zFL RX2 21 2 2 2 := ⟨_, _, _, _, zCX2, by decide, rfl, zi2 181 rfl rfl⟩
theorem kX2_32 : zCL RX2 32 mX8_clear 0 := ⟨zi4 177 rfl rfl, wX8_clear, zi1 7 rfl rfl, ⟨by decide, by decide, by decide +kernel⟩, by decide⟩
theorem gX2_25 : zFL RX2 25 2 0 2 := ⟨_, _, _, _, zCX2, by decide, rfl, zi2 178 rfl rfl⟩
theorem kX2_33 : zCL RX2 33 mX9_begin 1 := ⟨zi4 178 rfl rfl, wX9_begin, zi1 12 rfl rfl, ⟨by decide, by decide, by decide +kernel⟩, by decide⟩
theorem gX2_39 : zFL RX2 39 9 4 0 := ⟨_, _, _, _, zCX9, by decide, rfl, zi2 141 rfl rfl⟩
theorem kX2_43 : zCL RX2 43 mX2_readClause 0 := ⟨zi4 188 rfl rfl, wX2_readClause, zi1 13 rfl rfl, ⟨by decide, by decide, by decide +kernel⟩, by decide⟩
theorem kX2_48 : zCL RX2 48 mX9_isWord 1 := ⟨zi4 193 rfl rfl, wX9_isWord, zi1 12 rfl rfl, ⟨by decide, by decide, by decide +kernel⟩, by decide⟩
theorem kX2_52 : zCL RX2 52 mX2_readHouse 0 := ⟨zi4 226 rfl rfl, wX2_readHouse, zi1 13 rfl rfl, ⟨by decide, by decide, by decide +kernel⟩, by decide⟩
theorem kX2_57 : zCL RX2 57 mX2_readScreen 0 := ⟨zi5 9 rfl rfl, wX2_readScreen, zi1 13 rfl rfl, ⟨by decide, by decide, by decide +kernel⟩, by decide⟩
theorem kX2_62 : zCL RX2 62 mX2_readFilm 0 := ⟨zi5 18 rfl rfl, wX2_readFilm, zi1 13 rfl rfl, ⟨by decide, by decide, by decide +kernel⟩, by decide⟩
theorem kX2_67 : zCL RX2 67 mX9_takeWord 1 := ⟨zi5 27 rfl rfl, wX9_takeWord, zi1 12 rfl rfl, ⟨by decide, by decide, by decide +kernel⟩, by decide⟩
theorem kX2_70 : zCL RX2 70 mX2_readPrints 0 := ⟨zi5 32 rfl rfl, wX2_readPrints, zi1 13 rfl rfl, ⟨by decide, by decide, by decide +kernel⟩, by decide⟩
theorem kX2_75 : zCL RX2 75 mX2_readFee 0 := ⟨zi5 43 rfl rfl, wX2_readFee, zi1 13 rfl rfl, ⟨by decide, by decide, by decide +kernel⟩, by decide⟩
theorem kX2_78 : zCL RX2 78 mX9_fail 1 := ⟨zi4 230 rfl rfl, wX9_fail, zi1 12 rfl rfl, ⟨by decide, by decide, by decide +kernel⟩, by decide⟩
theorem gX2_81 : zFL RX2 81 1 0 0 := ⟨_, _, _, _, zCX1, by decide, rfl, zi1 79 rfl rfl⟩
theorem kX2_84 : zCL RX2 84 mX9_advance 0 := ⟨zi4 234 rfl rfl, wX9_advance, zi1 12 rfl rfl, ⟨by decide, by decide, by decide +kernel⟩, by decide⟩
theorem gX2_87 : zFL RX2 87 1 1 2 := ⟨_, _, _, _, zCX1, by decide, rfl, zi1 84 rfl rfl⟩
theorem kX2_91 : zCL RX2 91 mX9_takeNumber 2 := ⟨zi4 235 rfl rfl, wX9_takeNumber, zi1 12 rfl rfl, ⟨by decide, by decide, by decide +kernel⟩, by decide⟩
theorem gX2_95 : zFL RX2 95 1 2 2 := ⟨_, _, _, _, zCX1, by decide, rfl, zi1 89 rfl rfl⟩
theorem gX2_98 : zFL RX2 98 8 3 2 := ⟨_, _, _, _, zCX8, by decide, rfl, zi1 181 rfl rfl⟩
theorem kX2_101 : zCL RX2 101 mX9_takeSign 1 := ⟨zi5 0 rfl rfl, wX9_takeSign, zi1 12 rfl rfl, ⟨by decide, by decide, by decide +kernel⟩, by decide⟩
theorem pX2_readHouse_81 : zFP yX2_readHouse 81 1 0 0 := ⟨_, _, _, _, zCX1, by decide, rfl, zi1 79 rfl rfl, Or.inl rfl⟩
theorem gX2_105 : zFL RX2 105 1 3 0 := ⟨_, _, _, _, zCX1, by decide, rfl, zi1 96 rfl rfl⟩
theorem kX2_108 : zCL RX2 108 mX2_refuseFullHouse 0 := ⟨zi5 13 rfl rfl, wX2_refuseFullHouse, zi1 13 rfl rfl, ⟨by decide, by decide, by decide +kernel⟩, by decide⟩
theorem gX2_111 : zFL RX2 111 1 4 2 := ⟨_, _, _, _, zCX1, by decide, rfl, zi1 100 rfl rfl⟩
theorem gX2_114 : zFL RX2 114 1 5 2 := ⟨_, _, _, _, zCX1, by decide, rfl, zi1 105 rfl rfl⟩
theorem gX2_117 : zFL RX2 117 1 6 2 := ⟨_, _, _, _, zCX1, by decide, rfl, zi1 109 rfl rfl⟩
theorem gX2_120 : zFL RX2 120 8 4 2 := ⟨_, _, _, _, zCX8, by decide, rfl, zi1 185 rfl rfl⟩
theorem pX2_readScreen_105 : zFP yX2_readScreen 105 1 3 0 := ⟨_, _, _, _, zCX1, by decide, rfl, zi1 96 rfl rfl, Or.inl rfl⟩
theorem gX2_123 : zFL RX2 123 9 5 0 := ⟨_, _, _, _, zCX9, by decide, rfl, zi2 145 rfl rfl⟩
theorem gX2_126 : zFL RX2 126 1 7 0 := ⟨_, _, _, _, zCX1, by decide, rfl, zi1 115 rfl rfl⟩
theorem gX2_129 : zFL RX2 129 1 8 2 := ⟨_, _, _, _, zCX1, by decide, rfl, zi1 118 rfl rfl⟩
theorem gX2_132 : zFL RX2 132 1 9 2 := ⟨_, _, _, _, zCX1, by decide, rfl, zi1 121 rfl rfl⟩
theorem gX2_135 : zFL RX2 135 1 10 2 := ⟨_, _, _, _, zCX1, by decide, rfl, zi1 125 rfl rfl⟩
theorem kX2_138 : zCL RX2 138 mX2_readTerms 1 := ⟨zi5 22 rfl rfl, wX2_readTerms, zi1 13 rfl rfl, ⟨by decide, by decide, by decide +kernel⟩, by decide⟩
theorem gX2_141 : zFL RX2 141 8 11 2 := ⟨_, _, _, _, zCX8, by decide, rfl, zi1 209 rfl rfl⟩
theorem pX2_readFilm_126 : zFP yX2_readFilm 126 1 7 0 := ⟨_, _, _, _, zCX1, by decide, rfl, zi1 115 rfl rfl, Or.inl rfl⟩
theorem gX2_144 : zFL RX2 144 1 12 2 := ⟨_, _, _, _, zCX1, by decide, rfl, zi1 133 rfl rfl⟩
theorem gX2_147 : zFL RX2 147 1 11 2 := ⟨_, _, _, _, zCX1, by decide, rfl, zi1 129 rfl rfl⟩
theorem kX2_152 : zCL RX2 152 mX8_printsAt 2 := ⟨zi5 37 rfl rfl, wX8_printsAt, zi1 7 rfl rfl, ⟨by decide, by decide, by decide +kernel⟩, by decide⟩
theorem kX2_155 : zCL RX2 155 mX8_addPrints 3 := ⟨zi5 38 rfl rfl, wX8_addPrints, zi1 7 rfl rfl, ⟨by decide, by decide, by decide +kernel⟩, by decide⟩
theorem pX2_readFee_159 : zFP yX2_readFee 159 8 2 0 := ⟨_, _, _, _, zCX8, by decide, rfl, zi1 179 rfl rfl, Or.inl rfl⟩
theorem pX3_init_9 : zFP yX3_init 9 3 3 2 := ⟨_, _, _, _, zCX3, by decide, rfl, zi2 93 rfl rfl, Or.inr ⟨rfl, rfl, rfl⟩⟩
theorem pX3_init_15 : zFP yX3_init 15 3 0 2 := ⟨_, _, _, _, zCX3, by decide, rfl, zi2 90 rfl rfl, Or.inr ⟨rfl, rfl, rfl⟩⟩
theorem pX3_init_19 : zFP yX3_init 19 3 1 2 := ⟨_, _, _, _, zCX3, by decide, rfl, zi2 91 rfl rfl, Or.inr ⟨rfl, rfl, rfl⟩⟩
theorem pX3_init_23 : zFP yX3_init 23 3 2 2 := ⟨_, _, _, _, zCX3, by decide, rfl, zi2 92 rfl rfl, Or.inr ⟨rfl, rfl, rfl⟩⟩
theorem gX3_23 : zFL RX3 23 3 2 2 := ⟨_, _, _, _, zCX3, by decide, rfl, zi2 92 rfl rfl⟩
theorem kX3_27 : zCL RX3 27 mX10_allTakings 0 := ⟨zi3 157 rfl rfl, wX10_allTakings, zi1 8 rfl rfl, ⟨by decide, by decide, by decide +kernel⟩, by decide⟩
theorem kX3_33 : zCL RX3 33 mX3_addAmounts 1 := ⟨zi3 169 rfl rfl, wX3_addAmounts, zi1 10 rfl rfl, ⟨by decide, by decide, by decide +kernel⟩, by decide⟩
theorem kX3_37 : zCL RX3 37 mX3_addFilmTakings 0 := ⟨zi3 210 rfl rfl, wX3_addFilmTakings, zi1 10 rfl rfl, ⟨by decide, by decide, by decide +kernel⟩, by decide⟩
theorem kX3_40 : zCL RX3 40 mX3_addRuns 0 := ⟨zi3 218 rfl rfl, wX3_addRuns, zi1 10 rfl rfl, ⟨by decide, by decide, by decide +kernel⟩, by decide⟩
theorem kX3_43 : zCL RX3 43 mX3_holdScreens 0 := ⟨zi3 238 rfl rfl, wX3_holdScreens, zi1 10 rfl rfl, ⟨by decide, by decide, by decide +kernel⟩, by decide⟩
theorem gX3_19 : zFL RX3 19 3 1 2 := ⟨_, _, _, _, zCX3, by decide, rfl, zi2 91 rfl rfl⟩
theorem gX3_46 : zFL RX3 46 8 0 0 := ⟨_, _, _, _, zCX8, by decide, rfl, zi1 171 rfl rfl⟩
theorem gX3_15 : zFL RX3 15 3 0 2 := ⟨_, _, _, _, zCX3, by decide, rfl, zi2 90 rfl rfl⟩
theorem gX3_52 : zFL RX3 52 1 3 0 := ⟨_, _, _, _, zCX1, by decide, rfl, zi1 93 rfl rfl⟩
theorem kX3_57 : zCL RX3 57 mX8_countHeld 1 := ⟨zi4 11 rfl rfl, wX8_countHeld, zi1 7 rfl rfl, ⟨by decide, by decide, by decide +kernel⟩, by decide⟩
theorem kX3_61 : zCL RX3 61 mX8_writeLog 3 := ⟨zi3 206 rfl rfl, wX8_writeLog, zi1 7 rfl rfl, ⟨by decide, by decide, by decide +kernel⟩, by decide⟩
theorem pX3_closeWeek_65 : zFP yX3_closeWeek 65 8 1 0 := ⟨_, _, _, _, zCX8, by decide, rfl, zi1 174 rfl rfl, Or.inl rfl⟩
theorem pX3_closeWeek_46 : zFP yX3_closeWeek 46 8 0 0 := ⟨_, _, _, _, zCX8, by decide, rfl, zi1 171 rfl rfl, Or.inl rfl⟩
theorem kX3_68 : zCL RX3 68 mX3_ageFilms 0 := ⟨zi4 15 rfl rfl, wX3_ageFilms, zi1 10 rfl rfl, ⟨by decide, by decide, by decide +kernel⟩, by decide⟩
theorem gX3_71 : zFL RX3 71 1 0 0 := ⟨_, _, _, _, zCX1, by decide, rfl, zi1 78 rfl rfl⟩
theorem kX3_74 : zCL RX3 74 mX10_houseShares 1 := ⟨zi3 173 rfl rfl, wX10_houseShares, zi1 8 rfl rfl, ⟨by decide, by decide, by decide +kernel⟩, by decide⟩
theorem kX3_77 : zCL RX3 77 mX10_houseRents 1 := ⟨zi3 198 rfl rfl, wX10_houseRents, zi1 8 rfl rfl, ⟨by decide, by decide, by decide +kernel⟩, by decide⟩
theorem kX3_80 : zCL RX3 80 mX3_addAmount 2 := ⟨zi3 202 rfl rfl, wX3_addAmount, zi1 10 rfl rfl, ⟨by decide, by decide, by decide +kernel⟩, by decide⟩
theorem gX3_65 : zFL RX3 65 8 1 0 := ⟨_, _, _, _, zCX8, by decide, rfl, zi1 174 rfl rfl⟩
theorem gX3_84 : zFL RX3 84 8 2 0 := ⟨_, _, _, _, zCX8, by decide, rfl, zi1 177 rfl rfl⟩
theorem gX3_87 : zFL RX3 87 8 14 2 := ⟨_, _, _, _, zCX8, by decide, rfl, zi1 220 rfl rfl⟩
theorem gX3_90 : zFL RX3 90 1 7 0 := ⟨_, _, _, _, zCX1, by decide, rfl, zi1 114 rfl rfl⟩
theorem gX3_93 : zFL RX3 93 8 12 2 := ⟨_, _, _, _, zCX8, by decide, rfl, zi1 214 rfl rfl⟩
theorem kX3_96 : zCL RX3 96 mX10_filmTakings 1 := ⟨zi3 214 rfl rfl, wX10_filmTakings, zi1 8 rfl rfl, ⟨by decide, by decide, by decide +kernel⟩, by decide⟩
theorem kX3_98 : zCL RX3 98 mX10_isShownIn 2 := ⟨zi3 222 rfl rfl, wX10_isShownIn, zi1 8 rfl rfl, ⟨by decide, by decide, by decide +kernel⟩, by decide⟩
theorem kX3_102 : zCL RX3 102 mX3_addRun 2 := ⟨zi3 234 rfl rfl, wX3_addRun, zi1 10 rfl rfl, ⟨by decide, by decide, by decide +kernel⟩, by decide⟩
theorem gX3_105 : zFL RX3 105 8 13 2 := ⟨_, _, _, _, zCX8, by decide, rfl, zi1 218 rfl rfl⟩
theorem gX3_108 : zFL RX3 108 8 10 2 := ⟨_, _, _, _, zCX8, by decide, rfl, zi1 206 rfl rfl⟩
theorem gX3_9 : zFL RX3 9 3 3 2 := ⟨_, _, _, _, zCX3, by decide, rfl, zi2 93 rfl rfl⟩
theorem kX3_111 : zCL RX3 111 mX10_fillsWell 1 := ⟨zi4 2 rfl rfl, wX10_fillsWell, zi1 8 rfl rfl, ⟨by decide, by decide, by decide +kernel⟩, by decide⟩
theorem kX3_115 : zCL RX3 115 mX8_filmOn 2 := ⟨zi4 6 rfl rfl, wX8_filmOn, zi1 7 rfl rfl, ⟨by decide, by decide, by decide +kernel⟩, by decide⟩
theorem kX3_119 : zCL RX3 119 mX8_setBooking 4 := ⟨zi4 7 rfl rfl, wX8_setBooking, zi1 7 rfl rfl, ⟨by decide, by decide, by decide +kernel⟩, by decide⟩
theorem gX3_123 : zFL RX3 123 8 9 2 := ⟨_, _, _, _, zCX8, by decide, rfl, zi1 202 rfl rfl⟩
theorem gX3_126 : zFL RX3 126 8 11 2 := ⟨_, _, _, _, zCX8, by decide, rfl, zi1 210 rfl rfl⟩
theorem gX3_129 : zFL RX3 129 1 9 2 := ⟨_, _, _, _, zCX1, by decide, rfl, zi1 122 rfl rfl⟩
theorem pX4_init_11 : zFP yX4_init 11 4 0 2 := ⟨_, _, _, _, zCX4, by decide, rfl, zi2 112 rfl rfl, Or.inr ⟨rfl, rfl, rfl⟩⟩
theorem pX4_init_18 : zFP yX4_init 18 4 3 2 := ⟨_, _, _, _, zCX4, by decide, rfl, zi2 116 rfl rfl, Or.inr ⟨rfl, rfl, rfl⟩⟩
theorem gX4_11 : zFL RX4 11 4 0 2 := ⟨_, _, _, _, zCX4, by decide, rfl, zi2 112 rfl rfl⟩
theorem gX4_22 : zFL RX4 22 4 1 0 := ⟨_, _, _, _, zCX4, by decide, rfl, zi2 113 rfl rfl⟩
theorem kX4_26 : zCL RX4 26 mX8_copyFrom 1 := ⟨zi3 141 rfl rfl, wX8_copyFrom, zi1 7 rfl rfl, ⟨by decide, by decide, by decide +kernel⟩, by decide⟩
theorem pX4_record_22 : zFP yX4_record 22 4 1 0 := ⟨_, _, _, _, zCX4, by decide, rfl, zi2 113 rfl rfl, Or.inl rfl⟩
theorem gX4_30 : zFL RX4 30 4 2 0 := ⟨_, _, _, _, zCX4, by decide, rfl, zi2 114 rfl rfl⟩
theorem kX4_33 : zCL RX4 33 mJ9_min_7cf53 2 := ⟨zi3 152 rfl rfl, wJ9_min_7cf53, zi1 21 rfl rfl, ⟨by decide, by decide, by decide +kernel⟩, by decide⟩
theorem pX4_record_30 : zFP yX4_record 30 4 2 0 := ⟨_, _, _, _, zCX4, by decide, rfl, zi2 114 rfl rfl, Or.inl rfl⟩
theorem pX4_takeBack_22 : zFP yX4_takeBack 22 4 1 0 := ⟨_, _, _, _, zCX4, by decide, rfl, zi2 113 rfl rfl, Or.inl rfl⟩
theorem pX4_takeBack_30 : zFP yX4_takeBack 30 4 2 0 := ⟨_, _, _, _, zCX4, by decide, rfl, zi2 114 rfl rfl, Or.inl rfl⟩
theorem pX4_discardAll_30 : zFP yX4_discardAll 30 4 2 0 := ⟨_, _, _, _, zCX4, by decide, rfl, zi2 114 rfl rfl, Or.inl rfl⟩
theorem pX4_discardAll_39 : zFP yX4_discardAll 39 4 4 3 := ⟨_, _, _, _, zCX4, by decide, rfl, zi2 118 rfl rfl, Or.inl rfl⟩
theorem pX5_init_9 : zFP yX5_init 9 5 5 2 := ⟨_, _, _, _, zCX5, by decide, rfl, zi2 46 rfl rfl, Or.inr ⟨rfl, rfl, rfl⟩⟩
theorem pX5_init_15 : zFP yX5_init 15 5 6 2 := ⟨_, _, _, _, zCX5, by decide, rfl, zi2 47 rfl rfl, Or.inr ⟨rfl, rfl, rfl⟩⟩
theorem pX5_init_18 : zFP yX5_init 18 5 7 2 := ⟨_, _, _, _, zCX5, by decide, rfl, zi2 48 rfl rfl, Or.inr ⟨rfl, rfl, rfl⟩⟩
theorem pX5_init_21 : zFP yX5_init 21 5 8 2 := ⟨_, _, _, _, zCX5, by decide, rfl, zi2 49 rfl rfl, Or.inr ⟨rfl, rfl, rfl⟩⟩
theorem pX5_init_24 : zFP yX5_init 24 5 9 2 := ⟨_, _, _, _, zCX5, by decide, rfl, zi2 50 rfl rfl, Or.inr ⟨rfl, rfl, rfl⟩⟩
theorem pX5_init_27 : zFP yX5_init 27 5 10 2 := ⟨_, _, _, _, zCX5, by decide, rfl, zi2 51 rfl rfl, Or.inr ⟨rfl, rfl, rfl⟩⟩
theorem pX5_init_30 : zFP yX5_init 30 5 11 2 := ⟨_, _, _, _, zCX5, by decide, rfl, zi2 52 rfl rfl, Or.inr ⟨rfl, rfl, rfl⟩⟩
theorem pX5_init_33 : zFP yX5_init 33 5 12 2 := ⟨_, _, _, _, zCX5, by decide, rfl, zi2 53 rfl rfl, Or.inr ⟨rfl, rfl, rfl⟩⟩
theorem pX5_init_36 : zFP yX5_init 36 5 13 2 := ⟨_, _, _, _, zCX5, by decide, rfl, zi2 54 rfl rfl, Or.inr ⟨rfl, rfl, rfl⟩⟩
theorem pX5_init_39 : zFP yX5_init 39 5 0 2 := ⟨_, _, _, _, zCX5, by decide, rfl, zi2 41 rfl rfl, Or.inr ⟨rfl, rfl, rfl⟩⟩
theorem pX5_init_43 : zFP yX5_init 43 5 1 2 := ⟨_, _, _, _, zCX5, by decide, rfl, zi2 42 rfl rfl, Or.inr ⟨rfl, rfl, rfl⟩⟩
theorem pX5_init_47 : zFP yX5_init 47 5 2 2 := ⟨_, _, _, _, zCX5, by decide, rfl, zi2 43 rfl rfl, Or.inr ⟨rfl, rfl, rfl⟩⟩
theorem kX5_51 : zCL RX5 51 mX5_prepare 1 := ⟨zi3 40 rfl rfl, wX5_prepare, zi1 9 rfl rfl, ⟨by decide, by decide, by decide +kernel⟩, by decide⟩
theorem kX5_55 : zCL RX5 55 mX5_search 0 := ⟨zi3 56 rfl rfl, wX5_search, zi1 9 rfl rfl, ⟨by decide, by decide, by decide +kernel⟩, by decide⟩
theorem kX5_59 : zCL RX5 59 mX5_greatestGain 1 := ⟨zi3 36 rfl rfl, wX5_greatestGain, zi1 9 rfl rfl, ⟨by decide, by decide, by decide +kernel⟩, by decide⟩
theorem gX5_63 : zFL RX5 63 5 4 0 := ⟨_, _, _, _, zCX5, by decide, rfl, zi2 45 rfl rfl⟩
theorem gX5_15 : zFL RX5 15 5 6 2 := ⟨_, _, _, _, zCX5, by decide, rfl, zi2 47 rfl rfl⟩
theorem kX5_67 : zCL RX5 67 mX5_settle 2 := ⟨zi6 13 rfl rfl, wX5_settle, zi1 9 rfl rfl, ⟨by decide, by decide, by decide +kernel⟩, by decide⟩
theorem gX5_39 : zFL RX5 39 5 0 2 := ⟨_, _, _, _, zCX5, by decide, rfl, zi2 41 rfl rfl⟩
theorem gX5_71 : zFL RX5 71 1 7 0 := ⟨_, _, _, _, zCX1, by decide, rfl, zi1 113 rfl rfl⟩
theorem gX5_9 : zFL RX5 9 5 5 2 := ⟨_, _, _, _, zCX5, by decide, rfl, zi2 46 rfl rfl⟩
theorem gX5_43 : zFL RX5 43 5 1 2 := ⟨_, _, _, _, zCX5, by decide, rfl, zi2 42 rfl rfl⟩
theorem kX5_76 : zCL RX5 76 mX8_isBookedWhole 2 := ⟨zi6 93 rfl rfl, wX8_isBookedWhole, zi1 7 rfl rfl, ⟨by decide, by decide, by decide +kernel⟩, by decide⟩
theorem kX5_82 : zCL RX5 82 mX8_setBooking 4 := ⟨zi6 97 rfl rfl, wX8_setBooking, zi1 7 rfl rfl, ⟨by decide, by decide, by decide +kernel⟩, by decide⟩
theorem pX5_prepare_86 : zFP yX5_prepare 86 5 3 0 := ⟨_, _, _, _, zCX5, by decide, rfl, zi2 44 rfl rfl, Or.inl rfl⟩
theorem pX5_prepare_63 : zFP yX5_prepare 63 5 4 0 := ⟨_, _, _, _, zCX5, by decide, rfl, zi2 45 rfl rfl, Or.inl rfl⟩
theorem gX5_89 : zFL RX5 89 1 3 0 := ⟨_, _, _, _, zCX1, by decide, rfl, zi1 97 rfl rfl⟩
theorem gX5_91 : zFL RX5 91 1 4 2 := ⟨_, _, _, _, zCX1, by decide, rfl, zi1 101 rfl rfl⟩
theorem gX5_94 : zFL RX5 94 8 9 2 := ⟨_, _, _, _, zCX8, by decide, rfl, zi1 201 rfl rfl⟩
theorem gX5_97 : zFL RX5 97 8 6 2 := ⟨_, _, _, _, zCX8, by decide, rfl, zi1 191 rfl rfl⟩
theorem kX5_100 : zCL RX5 100 mX1_capacityOf 1 := ⟨zi3 44 rfl rfl, wX1_capacityOf, zi1 6 rfl rfl, ⟨by decide, by decide, by decide +kernel⟩, by decide⟩
theorem kX5_103 : zCL RX5 103 mX5_addRoom 2 := ⟨zi3 48 rfl rfl, wX5_addRoom, zi1 9 rfl rfl, ⟨by decide, by decide, by decide +kernel⟩, by decide⟩
theorem gX5_18 : zFL RX5 18 5 7 2 := ⟨_, _, _, _, zCX5, by decide, rfl, zi2 48 rfl rfl⟩
theorem kX5_106 : zCL RX5 106 mX8_printsAt 2 := ⟨zi3 52 rfl rfl, wX8_printsAt, zi1 7 rfl rfl, ⟨by decide, by decide, by decide +kernel⟩, by decide⟩
theorem gX5_21 : zFL RX5 21 5 8 2 := ⟨_, _, _, _, zCX5, by decide, rfl, zi2 49 rfl rfl⟩
theorem kX5_110 : zCL RX5 110 mX5_placesWith 1 := ⟨zi3 60 rfl rfl, wX5_placesWith, zi1 9 rfl rfl, ⟨by decide, by decide, by decide +kernel⟩, by decide⟩
theorem gX5_27 : zFL RX5 27 5 10 2 := ⟨_, _, _, _, zCX5, by decide, rfl, zi2 51 rfl rfl⟩
theorem kX5_113 : zCL RX5 113 mJ7_fill_53178 2 := ⟨zi3 64 rfl rfl, wJ7_fill_53178, zi1 15 rfl rfl, ⟨by decide, by decide, by decide +kernel⟩, by decide⟩
theorem kX5_119 : zCL RX5 119 mX5_findFilmGains 2 := ⟨zi3 65 rfl rfl, wX5_findFilmGains, zi1 9 rfl rfl, ⟨by decide, by decide, by decide +kernel⟩, by decide⟩
theorem kX5_122 : zCL RX5 122 mX5_addFilm 1 := ⟨zi3 90 rfl rfl, wX5_addFilm, zi1 9 rfl rfl, ⟨by decide, by decide, by decide +kernel⟩, by decide⟩
theorem kX5_125 : zCL RX5 125 mJ9_max_7cf53 2 := ⟨zi3 98 rfl rfl, wJ9_max_7cf53, zi1 21 rfl rfl, ⟨by decide, by decide, by decide +kernel⟩, by decide⟩
theorem gX5_130 : zFL RX5 130 8 11 2 := ⟨_, _, _, _, zCX8, by decide, rfl, zi1 211 rfl rfl⟩
theorem kX5_133 : zCL RX5 133 mJ9_min_7cf53 2 := ⟨zi3 69 rfl rfl, wJ9_min_7cf53, zi1 21 rfl rfl, ⟨by decide, by decide, by decide +kernel⟩, by decide⟩
theorem gX5_136 : zFL RX5 136 1 1 2 := ⟨_, _, _, _, zCX1, by decide, rfl, zi1 86 rfl rfl⟩
theorem gX5_86 : zFL RX5 86 5 3 0 := ⟨_, _, _, _, zCX5, by decide, rfl, zi2 44 rfl rfl⟩
theorem kX5_139 : zCL RX5 139 mJ6_bitCount_0f7a4 1 := ⟨zi3 72 rfl rfl, wJ6_bitCount_0f7a4, zi1 27 rfl rfl, ⟨by decide, by decide, by decide +kernel⟩, by decide⟩
theorem gX5_24 : zFL RX5 24 5 9 2 := ⟨_, _, _, _, zCX5, by decide, rfl, zi2 50 rfl rfl⟩
theorem gX5_47 : zFL RX5 47 5 2 2 := ⟨_, _, _, _, zCX5, by decide, rfl, zi2 43 rfl rfl⟩
theorem kX5_144 : zCL RX5 144 mX10_shareOf 3 := ⟨zi3 78 rfl rfl, wX10_shareOf, zi1 8 rfl rfl, ⟨by decide, by decide, by decide +kernel⟩, by decide⟩
theorem kX5_150 : zCL RX5 150 mX5_bestParting 1 := ⟨zi3 94 rfl rfl, wX5_bestParting, zi1 9 rfl rfl, ⟨by decide, by decide, by decide +kernel⟩, by decide⟩
theorem gX5_153 : zFL RX5 153 1 0 0 := ⟨_, _, _, _, zCX1, by decide, rfl, zi1 81 rfl rfl⟩
theorem gX5_30 : zFL RX5 30 5 11 2 := ⟨_, _, _, _, zCX5, by decide, rfl, zi2 52 rfl rfl⟩
theorem kX5_156 : zCL RX5 156 mX5_weighPlaces 1 := ⟨zi3 99 rfl rfl, wX5_weighPlaces, zi1 9 rfl rfl, ⟨by decide, by decide, by decide +kernel⟩, by decide⟩
theorem gX5_33 : zFL RX5 33 5 12 2 := ⟨_, _, _, _, zCX5, by decide, rfl, zi2 53 rfl rfl⟩
theorem gX5_36 : zFL RX5 36 5 13 2 := ⟨_, _, _, _, zCX5, by decide, rfl, zi2 54 rfl rfl⟩
theorem oX5_159 : Cond.constant RX5 159 (Int32.ofInt (-1000000000)) ∈ lw_all := by
  rw [show Int32.ofInt (-1000000000) = (-1000000000 : Int32) by decide]
  exact zi3 103 rfl rfl
theorem kX5_160 : zCL RX5 160 mX5_heldScreens 2 := ⟨zi3 104 rfl rfl, wX5_heldScreens, zi1 9 rfl rfl, ⟨by decide, by decide, by decide +kernel⟩, by decide⟩
theorem kX5_163 : zCL RX5 163 mX5_gainChange 3 := ⟨zi3 108 rfl rfl, wX5_gainChange, zi1 9 rfl rfl, ⟨by decide, by decide, by decide +kernel⟩, by decide⟩
theorem pX7_init_9 : zFP yX7_init 9 7 0 2 := ⟨_, _, _, _, zCX7, by decide, rfl, zi2 196 rfl rfl, Or.inr ⟨rfl, rfl, rfl⟩⟩
theorem pX7_init_15 : zFP yX7_init 15 7 1 2 := ⟨_, _, _, _, zCX7, by decide, rfl, zi2 197 rfl rfl, Or.inr ⟨rfl, rfl, rfl⟩⟩
theorem pX7_init_19 : zFP yX7_init 19 7 2 2 := ⟨_, _, _, _, zCX7, by decide, rfl, zi2 198 rfl rfl, Or.inr ⟨rfl, rfl, rfl⟩⟩
theorem pX7_init_23 : zFP yX7_init 23 7 3 2 := ⟨_, _, _, _, zCX7, by decide, rfl, zi2 199 rfl rfl, Or.inr ⟨rfl, rfl, rfl⟩⟩
theorem gX7_9 : zFL RX7 9 7 0 2 := ⟨_, _, _, _, zCX7, by decide, rfl, zi2 196 rfl rfl⟩
theorem kX7_27 : zCL RX7 27 mX9_begin 1 := ⟨zi7 118 rfl rfl, wX9_begin, zi1 12 rfl rfl, ⟨by decide, by decide, by decide +kernel⟩, by decide⟩
theorem kX7_35 : zCL RX7 35 mX9_takeWord 1 := ⟨zi7 120 rfl rfl, wX9_takeWord, zi1 12 rfl rfl, ⟨by decide, by decide, by decide +kernel⟩, by decide⟩
theorem kX7_41 : zCL RX7 41 mX9_fail 1 := ⟨zi7 122 rfl rfl, wX9_fail, zi1 12 rfl rfl, ⟨by decide, by decide, by decide +kernel⟩, by decide⟩
theorem kX7_44 : zCL RX7 44 mX7_readTest 1 := ⟨zi7 123 rfl rfl, wX7_readTest, zi1 14 rfl rfl, ⟨by decide, by decide, by decide +kernel⟩, by decide⟩
theorem gX7_48 : zFL RX7 48 9 4 0 := ⟨_, _, _, _, zCX9, by decide, rfl, zi2 142 rfl rfl⟩
theorem kX7_52 : zCL RX7 52 mJ6_bitCount_0f7a4 1 := ⟨zi7 180 rfl rfl, wJ6_bitCount_0f7a4, zi1 27 rfl rfl, ⟨by decide, by decide, by decide +kernel⟩, by decide⟩
theorem kX7_57 : zCL RX7 57 mX7_leastIn 1 := ⟨zi7 181 rfl rfl, wX7_leastIn, zi1 14 rfl rfl, ⟨by decide, by decide, by decide +kernel⟩, by decide⟩
theorem gX7_15 : zFL RX7 15 7 1 2 := ⟨_, _, _, _, zCX7, by decide, rfl, zi2 197 rfl rfl⟩
theorem gX7_60 : zFL RX7 60 1 3 0 := ⟨_, _, _, _, zCX1, by decide, rfl, zi1 94 rfl rfl⟩
theorem kX7_65 : zCL RX7 65 mX7_readFactor 1 := ⟨zi7 127 rfl rfl, wX7_readFactor, zi1 14 rfl rfl, ⟨by decide, by decide, by decide +kernel⟩, by decide⟩
theorem kX7_74 : zCL RX7 74 mX9_isWord 1 := ⟨zi7 132 rfl rfl, wX9_isWord, zi1 12 rfl rfl, ⟨by decide, by decide, by decide +kernel⟩, by decide⟩
theorem kX7_77 : zCL RX7 77 mX9_isSign 1 := ⟨zi7 133 rfl rfl, wX9_isSign, zi1 12 rfl rfl, ⟨by decide, by decide, by decide +kernel⟩, by decide⟩
theorem kX7_81 : zCL RX7 81 mX7_readComparison 0 := ⟨zi7 134 rfl rfl, wX7_readComparison, zi1 14 rfl rfl, ⟨by decide, by decide, by decide +kernel⟩, by decide⟩
theorem kX7_85 : zCL RX7 85 mX9_advance 0 := ⟨zi7 146 rfl rfl, wX9_advance, zi1 12 rfl rfl, ⟨by decide, by decide, by decide +kernel⟩, by decide⟩
theorem kX7_88 : zCL RX7 88 mX7_allScreens 0 := ⟨zi7 173 rfl rfl, wX7_allScreens, zi1 14 rfl rfl, ⟨by decide, by decide, by decide +kernel⟩, by decide⟩
theorem kX7_91 : zCL RX7 91 mX9_takeSign 1 := ⟨zi7 177 rfl rfl, wX9_takeSign, zi1 12 rfl rfl, ⟨by decide, by decide, by decide +kernel⟩, by decide⟩
theorem kX7_95 : zCL RX7 95 mX7_readValue 0 := ⟨zi7 138 rfl rfl, wX7_readValue, zi1 14 rfl rfl, ⟨by decide, by decide, by decide +kernel⟩, by decide⟩
theorem kX7_98 : zCL RX7 98 mX7_readRelation 0 := ⟨zi7 147 rfl rfl, wX7_readRelation, zi1 14 rfl rfl, ⟨by decide, by decide, by decide +kernel⟩, by decide⟩
theorem kX7_101 : zCL RX7 101 mX7_valueFor 2 := ⟨zi7 151 rfl rfl, wX7_valueFor, zi1 14 rfl rfl, ⟨by decide, by decide, by decide +kernel⟩, by decide⟩
theorem kX7_105 : zCL RX7 105 mX7_holds 3 := ⟨zi7 170 rfl rfl, wX7_holds, zi1 14 rfl rfl, ⟨by decide, by decide, by decide +kernel⟩, by decide⟩
theorem gX7_109 : zFL RX7 109 9 5 0 := ⟨_, _, _, _, zCX9, by decide, rfl, zi2 146 rfl rfl⟩
theorem oX7_112 : Cond.constant RX7 112 (Int32.ofInt (99999)) ∈ lw_all := by
  rw [show Int32.ofInt (99999) = (99999 : Int32) by decide]
  exact zi7 142 rfl rfl
theorem kX7_113 : zCL RX7 113 mX9_takeNumber 2 := ⟨zi7 143 rfl rfl, wX9_takeNumber, zi1 12 rfl rfl, ⟨by decide, by decide, by decide +kernel⟩, by decide⟩
theorem gX7_135 : zFL RX7 135 1 4 2 := ⟨_, _, _, _, zCX1, by decide, rfl, zi1 103 rfl rfl⟩
theorem gX7_138 : zFL RX7 138 1 5 2 := ⟨_, _, _, _, zCX1, by decide, rfl, zi1 107 rfl rfl⟩
theorem kX7_141 : zCL RX7 141 mX1_capacityOf 1 := ⟨zi7 163 rfl rfl, wX1_capacityOf, zi1 6 rfl rfl, ⟨by decide, by decide, by decide +kernel⟩, by decide⟩
theorem gX7_19 : zFL RX7 19 7 2 2 := ⟨_, _, _, _, zCX7, by decide, rfl, zi2 198 rfl rfl⟩
theorem gX7_144 : zFL RX7 144 8 4 2 := ⟨_, _, _, _, zCX8, by decide, rfl, zi1 187 rfl rfl⟩
theorem kX7_149 : zCL RX7 149 mX7_bookedAs 1 := ⟨zi7 164 rfl rfl, wX7_bookedAs, zi1 14 rfl rfl, ⟨by decide, by decide, by decide +kernel⟩, by decide⟩
theorem gX7_152 : zFL RX7 152 8 9 2 := ⟨_, _, _, _, zCX8, by decide, rfl, zi1 203 rfl rfl⟩
theorem gX7_23 : zFL RX7 23 7 3 2 := ⟨_, _, _, _, zCX7, by decide, rfl, zi2 199 rfl rfl⟩
theorem kX7_155 : zCL RX7 155 mX10_screenTakings 1 := ⟨zi7 168 rfl rfl, wX10_screenTakings, zi1 8 rfl rfl, ⟨by decide, by decide, by decide +kernel⟩, by decide⟩
theorem kX7_160 : zCL RX7 160 mX10_visitorsSince 2 := ⟨zi7 169 rfl rfl, wX10_visitorsSince, zi1 8 rfl rfl, ⟨by decide, by decide, by decide +kernel⟩, by decide⟩
theorem gX7_163 : zFL RX7 163 8 6 2 := ⟨_, _, _, _, zCX8, by decide, rfl, zi1 193 rfl rfl⟩
theorem gX7_166 : zFL RX7 166 8 8 2 := ⟨_, _, _, _, zCX8, by decide, rfl, zi1 198 rfl rfl⟩
theorem pX8_init_9 : zFP yX8_init 9 8 3 2 := ⟨_, _, _, _, zCX8, by decide, rfl, zi1 180 rfl rfl, Or.inr ⟨rfl, rfl, rfl⟩⟩
theorem pX8_init_15 : zFP yX8_init 15 8 4 2 := ⟨_, _, _, _, zCX8, by decide, rfl, zi1 184 rfl rfl, Or.inr ⟨rfl, rfl, rfl⟩⟩
theorem pX8_init_18 : zFP yX8_init 18 8 5 2 := ⟨_, _, _, _, zCX8, by decide, rfl, zi1 189 rfl rfl, Or.inr ⟨rfl, rfl, rfl⟩⟩
theorem pX8_init_21 : zFP yX8_init 21 8 6 2 := ⟨_, _, _, _, zCX8, by decide, rfl, zi1 190 rfl rfl, Or.inr ⟨rfl, rfl, rfl⟩⟩
theorem pX8_init_24 : zFP yX8_init 24 8 7 2 := ⟨_, _, _, _, zCX8, by decide, rfl, zi1 194 rfl rfl, Or.inr ⟨rfl, rfl, rfl⟩⟩
theorem pX8_init_27 : zFP yX8_init 27 8 8 2 := ⟨_, _, _, _, zCX8, by decide, rfl, zi1 196 rfl rfl, Or.inr ⟨rfl, rfl, rfl⟩⟩
theorem pX8_init_30 : zFP yX8_init 30 8 9 2 := ⟨_, _, _, _, zCX8, by decide, rfl, zi1 200 rfl rfl, Or.inr ⟨rfl, rfl, rfl⟩⟩
theorem pX8_init_33 : zFP yX8_init 33 8 10 2 := ⟨_, _, _, _, zCX8, by decide, rfl, zi1 205 rfl rfl, Or.inr ⟨rfl, rfl, rfl⟩⟩
theorem pX8_init_36 : zFP yX8_init 36 8 11 2 := ⟨_, _, _, _, zCX8, by decide, rfl, zi1 207 rfl rfl, Or.inr ⟨rfl, rfl, rfl⟩⟩
theorem pX8_init_39 : zFP yX8_init 39 8 12 2 := ⟨_, _, _, _, zCX8, by decide, rfl, zi1 213 rfl rfl, Or.inr ⟨rfl, rfl, rfl⟩⟩
theorem pX8_init_42 : zFP yX8_init 42 8 13 2 := ⟨_, _, _, _, zCX8, by decide, rfl, zi1 217 rfl rfl, Or.inr ⟨rfl, rfl, rfl⟩⟩
theorem pX8_init_45 : zFP yX8_init 45 8 14 2 := ⟨_, _, _, _, zCX8, by decide, rfl, zi1 219 rfl rfl, Or.inr ⟨rfl, rfl, rfl⟩⟩
theorem pX8_init_48 : zFP yX8_init 48 8 15 2 := ⟨_, _, _, _, zCX8, by decide, rfl, zi1 222 rfl rfl, Or.inr ⟨rfl, rfl, rfl⟩⟩
theorem pX8_clear_51 : zFP yX8_clear 51 8 0 0 := ⟨_, _, _, _, zCX8, by decide, rfl, zi1 170 rfl rfl, Or.inl rfl⟩
theorem pX8_clear_55 : zFP yX8_clear 55 8 1 0 := ⟨_, _, _, _, zCX8, by decide, rfl, zi1 173 rfl rfl, Or.inl rfl⟩
theorem pX8_clear_58 : zFP yX8_clear 58 8 2 0 := ⟨_, _, _, _, zCX8, by decide, rfl, zi1 176 rfl rfl, Or.inl rfl⟩
theorem gX8_9 : zFL RX8 9 8 3 2 := ⟨_, _, _, _, zCX8, by decide, rfl, zi1 180 rfl rfl⟩
theorem kX8_61 : zCL RX8 61 mJ7_fill_53178 2 := ⟨zi2 213 rfl rfl, wJ7_fill_53178, zi1 15 rfl rfl, ⟨by decide, by decide, by decide +kernel⟩, by decide⟩
theorem gX8_15 : zFL RX8 15 8 4 2 := ⟨_, _, _, _, zCX8, by decide, rfl, zi1 184 rfl rfl⟩
theorem gX8_18 : zFL RX8 18 8 5 2 := ⟨_, _, _, _, zCX8, by decide, rfl, zi1 189 rfl rfl⟩
theorem gX8_21 : zFL RX8 21 8 6 2 := ⟨_, _, _, _, zCX8, by decide, rfl, zi1 190 rfl rfl⟩
theorem gX8_24 : zFL RX8 24 8 7 2 := ⟨_, _, _, _, zCX8, by decide, rfl, zi1 194 rfl rfl⟩
theorem gX8_27 : zFL RX8 27 8 8 2 := ⟨_, _, _, _, zCX8, by decide, rfl, zi1 196 rfl rfl⟩
theorem gX8_30 : zFL RX8 30 8 9 2 := ⟨_, _, _, _, zCX8, by decide, rfl, zi1 200 rfl rfl⟩
theorem gX8_33 : zFL RX8 33 8 10 2 := ⟨_, _, _, _, zCX8, by decide, rfl, zi1 205 rfl rfl⟩
theorem gX8_36 : zFL RX8 36 8 11 2 := ⟨_, _, _, _, zCX8, by decide, rfl, zi1 207 rfl rfl⟩
theorem gX8_39 : zFL RX8 39 8 12 2 := ⟨_, _, _, _, zCX8, by decide, rfl, zi1 213 rfl rfl⟩
theorem gX8_42 : zFL RX8 42 8 13 2 := ⟨_, _, _, _, zCX8, by decide, rfl, zi1 217 rfl rfl⟩
theorem gX8_45 : zFL RX8 45 8 14 2 := ⟨_, _, _, _, zCX8, by decide, rfl, zi1 219 rfl rfl⟩
theorem gX8_48 : zFL RX8 48 8 15 2 := ⟨_, _, _, _, zCX8, by decide, rfl, zi1 222 rfl rfl⟩
theorem gX8_51 : zFL RX8 51 8 0 0 := ⟨_, _, _, _, zCX8, by decide, rfl, zi1 170 rfl rfl⟩
theorem pX8_copyFrom_51 : zFP yX8_copyFrom 51 8 0 0 := ⟨_, _, _, _, zCX8, by decide, rfl, zi1 170 rfl rfl, Or.inl rfl⟩
theorem gX8_55 : zFL RX8 55 8 1 0 := ⟨_, _, _, _, zCX8, by decide, rfl, zi1 173 rfl rfl⟩
theorem pX8_copyFrom_55 : zFP yX8_copyFrom 55 8 1 0 := ⟨_, _, _, _, zCX8, by decide, rfl, zi1 173 rfl rfl, Or.inl rfl⟩
theorem gX8_58 : zFL RX8 58 8 2 0 := ⟨_, _, _, _, zCX8, by decide, rfl, zi1 176 rfl rfl⟩
theorem pX8_copyFrom_58 : zFP yX8_copyFrom 58 8 2 0 := ⟨_, _, _, _, zCX8, by decide, rfl, zi1 176 rfl rfl, Or.inl rfl⟩
theorem pX9_init_9 : zFP yX9_init 9 9 0 2 := ⟨_, _, _, _, zCX9, by decide, rfl, zi2 137 rfl rfl, Or.inr ⟨rfl, rfl, rfl⟩⟩
theorem gX9_9 : zFL RX9 9 9 0 2 := ⟨_, _, _, _, zCX9, by decide, rfl, zi2 137 rfl rfl⟩
theorem kX9_15 : zCL RX9 15 mJ9_min_7cf53 2 := ⟨zi4 182 rfl rfl, wJ9_min_7cf53, zi1 21 rfl rfl, ⟨by decide, by decide, by decide +kernel⟩, by decide⟩
theorem pX9_begin_21 : zFP yX9_begin 21 9 1 0 := ⟨_, _, _, _, zCX9, by decide, rfl, zi2 138 rfl rfl, Or.inl rfl⟩
theorem pX9_begin_25 : zFP yX9_begin 25 9 2 0 := ⟨_, _, _, _, zCX9, by decide, rfl, zi2 139 rfl rfl, Or.inl rfl⟩
theorem pX9_begin_28 : zFP yX9_begin 28 9 6 0 := ⟨_, _, _, _, zCX9, by decide, rfl, zi2 147 rfl rfl, Or.inl rfl⟩
theorem pX9_begin_31 : zFP yX9_begin 31 9 7 0 := ⟨_, _, _, _, zCX9, by decide, rfl, zi2 149 rfl rfl, Or.inl rfl⟩
theorem kX9_34 : zCL RX9 34 mX9_advance 0 := ⟨zi4 183 rfl rfl, wX9_advance, zi1 12 rfl rfl, ⟨by decide, by decide, by decide +kernel⟩, by decide⟩
theorem gX9_28 : zFL RX9 28 9 6 0 := ⟨_, _, _, _, zCX9, by decide, rfl, zi2 147 rfl rfl⟩
theorem pX9_fail_28 : zFP yX9_fail 28 9 6 0 := ⟨_, _, _, _, zCX9, by decide, rfl, zi2 147 rfl rfl, Or.inl rfl⟩
theorem gX9_37 : zFL RX9 37 9 3 0 := ⟨_, _, _, _, zCX9, by decide, rfl, zi2 140 rfl rfl⟩
theorem pX9_fail_31 : zFP yX9_fail 31 9 7 0 := ⟨_, _, _, _, zCX9, by decide, rfl, zi2 149 rfl rfl, Or.inl rfl⟩
theorem pX9_fail_40 : zFP yX9_fail 40 9 4 0 := ⟨_, _, _, _, zCX9, by decide, rfl, zi2 143 rfl rfl, Or.inl rfl⟩
theorem gX9_25 : zFL RX9 25 9 2 0 := ⟨_, _, _, _, zCX9, by decide, rfl, zi2 139 rfl rfl⟩
theorem gX9_21 : zFL RX9 21 9 1 0 := ⟨_, _, _, _, zCX9, by decide, rfl, zi2 138 rfl rfl⟩
theorem pX9_advance_25 : zFP yX9_advance 25 9 2 0 := ⟨_, _, _, _, zCX9, by decide, rfl, zi2 139 rfl rfl, Or.inl rfl⟩
theorem pX9_advance_37 : zFP yX9_advance 37 9 3 0 := ⟨_, _, _, _, zCX9, by decide, rfl, zi2 140 rfl rfl, Or.inl rfl⟩
theorem pX9_advance_43 : zFP yX9_advance 43 9 5 0 := ⟨_, _, _, _, zCX9, by decide, rfl, zi2 144 rfl rfl, Or.inl rfl⟩
theorem pX9_advance_40 : zFP yX9_advance 40 9 4 0 := ⟨_, _, _, _, zCX9, by decide, rfl, zi2 143 rfl rfl, Or.inl rfl⟩
theorem gX9_43 : zFL RX9 43 9 5 0 := ⟨_, _, _, _, zCX9, by decide, rfl, zi2 144 rfl rfl⟩
theorem oX9_46 : Cond.constant RX9 46 (Int32.ofInt (1000000)) ∈ lw_all := by
  rw [show Int32.ofInt (1000000) = (1000000 : Int32) by decide]
  exact zi4 187 rfl rfl
theorem gX9_40 : zFL RX9 40 9 4 0 := ⟨_, _, _, _, zCX9, by decide, rfl, zi2 143 rfl rfl⟩
theorem kX9_47 : zCL RX9 47 mJ0_length_8abf5 0 := ⟨zi4 197 rfl rfl, wJ0_length_8abf5, zi1 4 rfl rfl, ⟨by decide, by decide, by decide +kernel⟩, by decide⟩
theorem kX9_52 : zCL RX9 52 mJ0_charAt_5068e 1 := ⟨zi4 206 rfl rfl, wJ0_charAt_5068e, zi1 4 rfl rfl, ⟨by decide, by decide, by decide +kernel⟩, by decide⟩
theorem kX9_56 : zCL RX9 56 mX9_isWord 1 := ⟨zi5 31 rfl rfl, wX9_isWord, zi1 12 rfl rfl, ⟨by decide, by decide, by decide +kernel⟩, by decide⟩
theorem kX9_60 : zCL RX9 60 mX9_isSign 1 := ⟨zi5 4 rfl rfl, wX9_isSign, zi1 12 rfl rfl, ⟨by decide, by decide, by decide +kernel⟩, by decide⟩
theorem kX9_64 : zCL RX9 64 mX9_fail 1 := ⟨zi4 239 rfl rfl, wX9_fail, zi1 12 rfl rfl, ⟨by decide, by decide, by decide +kernel⟩, by decide⟩
theorem pX10_init_9 : zFP yX10_init 9 10 2 2 := ⟨_, _, _, _, zCX10, by decide, rfl, zi2 24 rfl rfl, Or.inr ⟨rfl, rfl, rfl⟩⟩
theorem pX10_init_15 : zFP yX10_init 15 10 3 2 := ⟨_, _, _, _, zCX10, by decide, rfl, zi2 25 rfl rfl, Or.inr ⟨rfl, rfl, rfl⟩⟩
theorem pX10_init_18 : zFP yX10_init 18 10 0 2 := ⟨_, _, _, _, zCX10, by decide, rfl, zi2 22 rfl rfl, Or.inr ⟨rfl, rfl, rfl⟩⟩
theorem pX10_init_22 : zFP yX10_init 22 10 1 2 := ⟨_, _, _, _, zCX10, by decide, rfl, zi2 23 rfl rfl, Or.inr ⟨rfl, rfl, rfl⟩⟩
theorem gX10_18 : zFL RX10 18 10 0 2 := ⟨_, _, _, _, zCX10, by decide, rfl, zi2 22 rfl rfl⟩
theorem gX10_26 : zFL RX10 26 1 3 0 := ⟨_, _, _, _, zCX1, by decide, rfl, zi1 92 rfl rfl⟩
theorem gX10_22 : zFL RX10 22 10 1 2 := ⟨_, _, _, _, zCX10, by decide, rfl, zi2 23 rfl rfl⟩
theorem kX10_32 : zCL RX10 32 mX8_filmOn 2 := ⟨zi3 189 rfl rfl, wX8_filmOn, zi1 7 rfl rfl, ⟨by decide, by decide, by decide +kernel⟩, by decide⟩
theorem gX10_38 : zFL RX10 38 1 7 0 := ⟨_, _, _, _, zCX1, by decide, rfl, zi1 112 rfl rfl⟩
theorem gX10_9 : zFL RX10 9 10 2 2 := ⟨_, _, _, _, zCX10, by decide, rfl, zi2 24 rfl rfl⟩
theorem kX10_41 : zCL RX10 41 mX10_expectedVisitors 3 := ⟨zi4 23 rfl rfl, wX10_expectedVisitors, zi1 8 rfl rfl, ⟨by decide, by decide, by decide +kernel⟩, by decide⟩
theorem gX10_45 : zFL RX10 45 8 11 2 := ⟨_, _, _, _, zCX8, by decide, rfl, zi1 208 rfl rfl⟩
theorem kX10_48 : zCL RX10 48 mX10_isServedBefore 2 := ⟨zi4 27 rfl rfl, wX10_isServedBefore, zi1 8 rfl rfl, ⟨by decide, by decide, by decide +kernel⟩, by decide⟩
theorem kX10_52 : zCL RX10 52 mX1_capacityOf 1 := ⟨zi3 124 rfl rfl, wX1_capacityOf, zi1 6 rfl rfl, ⟨by decide, by decide, by decide +kernel⟩, by decide⟩
theorem kX10_56 : zCL RX10 56 mJ9_min_7cf53 2 := ⟨zi3 86 rfl rfl, wJ9_min_7cf53, zi1 21 rfl rfl, ⟨by decide, by decide, by decide +kernel⟩, by decide⟩
theorem kX10_61 : zCL RX10 61 mJ9_max_7cf53 2 := ⟨zi3 87 rfl rfl, wJ9_max_7cf53, zi1 21 rfl rfl, ⟨by decide, by decide, by decide +kernel⟩, by decide⟩
theorem gX10_64 : zFL RX10 64 1 4 2 := ⟨_, _, _, _, zCX1, by decide, rfl, zi1 99 rfl rfl⟩
theorem kX10_67 : zCL RX10 67 mX1_priceAt 1 := ⟨zi3 165 rfl rfl, wX1_priceAt, zi1 6 rfl rfl, ⟨by decide, by decide, by decide +kernel⟩, by decide⟩
theorem kX10_70 : zCL RX10 70 mX10_visitorsSince 2 := ⟨zi3 129 rfl rfl, wX10_visitorsSince, zi1 8 rfl rfl, ⟨by decide, by decide, by decide +kernel⟩, by decide⟩
theorem kX10_73 : zCL RX10 73 mX10_screenTakings 1 := ⟨zi3 161 rfl rfl, wX10_screenTakings, zi1 8 rfl rfl, ⟨by decide, by decide, by decide +kernel⟩, by decide⟩
theorem gX10_76 : zFL RX10 76 8 4 2 := ⟨_, _, _, _, zCX8, by decide, rfl, zi1 188 rfl rfl⟩
theorem kX10_79 : zCL RX10 79 mX10_filmVisitorsOn 2 := ⟨zi3 185 rfl rfl, wX10_filmVisitorsOn, zi1 8 rfl rfl, ⟨by decide, by decide, by decide +kernel⟩, by decide⟩
theorem gX10_82 : zFL RX10 82 1 1 2 := ⟨_, _, _, _, zCX1, by decide, rfl, zi1 87 rfl rfl⟩
theorem kX10_85 : zCL RX10 85 mX10_visitorsOn 2 := ⟨zi3 193 rfl rfl, wX10_visitorsOn, zi1 8 rfl rfl, ⟨by decide, by decide, by decide +kernel⟩, by decide⟩
theorem gX10_88 : zFL RX10 88 1 0 0 := ⟨_, _, _, _, zCX1, by decide, rfl, zi1 82 rfl rfl⟩
theorem kX10_91 : zCL RX10 91 mX10_filmTakingsIn 2 := ⟨zi3 181 rfl rfl, wX10_filmTakingsIn, zi1 8 rfl rfl, ⟨by decide, by decide, by decide +kernel⟩, by decide⟩
theorem kX10_94 : zCL RX10 94 mX8_runOf 2 := ⟨zi3 82 rfl rfl, wX8_runOf, zi1 7 rfl rfl, ⟨by decide, by decide, by decide +kernel⟩, by decide⟩
theorem gX10_97 : zFL RX10 97 1 11 2 := ⟨_, _, _, _, zCX1, by decide, rfl, zi1 131 rfl rfl⟩
theorem gX10_100 : zFL RX10 100 1 12 2 := ⟨_, _, _, _, zCX1, by decide, rfl, zi1 135 rfl rfl⟩
theorem gX10_103 : zFL RX10 103 1 10 2 := ⟨_, _, _, _, zCX1, by decide, rfl, zi1 127 rfl rfl⟩
theorem kX10_106 : zCL RX10 106 mX10_shareOf 3 := ⟨zi3 197 rfl rfl, wX10_shareOf, zi1 8 rfl rfl, ⟨by decide, by decide, by decide +kernel⟩, by decide⟩
theorem kX10_109 : zCL RX10 109 mX10_shareIn 2 := ⟨zi3 177 rfl rfl, wX10_shareIn, zi1 8 rfl rfl, ⟨by decide, by decide, by decide +kernel⟩, by decide⟩
theorem gX10_112 : zFL RX10 112 8 8 2 := ⟨_, _, _, _, zCX8, by decide, rfl, zi1 199 rfl rfl⟩
theorem gX10_115 : zFL RX10 115 8 3 2 := ⟨_, _, _, _, zCX8, by decide, rfl, zi1 183 rfl rfl⟩
theorem kX10_118 : zCL RX10 118 mX10_screensShowing 3 := ⟨zi3 230 rfl rfl, wX10_screensShowing, zi1 8 rfl rfl, ⟨by decide, by decide, by decide +kernel⟩, by decide⟩
theorem kX10_121 : zCL RX10 121 mX8_printsAt 2 := ⟨zi6 55 rfl rfl, wX8_printsAt, zi1 7 rfl rfl, ⟨by decide, by decide, by decide +kernel⟩, by decide⟩
theorem kX10_124 : zCL RX10 124 mX10_printsNeeded 2 := ⟨zi3 226 rfl rfl, wX10_printsNeeded, zi1 8 rfl rfl, ⟨by decide, by decide, by decide +kernel⟩, by decide⟩
theorem gX10_15 : zFL RX10 15 10 3 2 := ⟨_, _, _, _, zCX10, by decide, rfl, zi2 25 rfl rfl⟩
theorem gX10_127 : zFL RX10 127 8 12 2 := ⟨_, _, _, _, zCX8, by decide, rfl, zi1 216 rfl rfl⟩
theorem kX10_130 : zCL RX10 130 mX10_filmTakings 1 := ⟨zi5 229 rfl rfl, wX10_filmTakings, zi1 8 rfl rfl, ⟨by decide, by decide, by decide +kernel⟩, by decide⟩
theorem kX10_132 : zCL RX10 132 mX10_filmsAhead 1 := ⟨zi5 230 rfl rfl, wX10_filmsAhead, zi1 8 rfl rfl, ⟨by decide, by decide, by decide +kernel⟩, by decide⟩
theorem pX11_init_9 : zFP yX11_init 9 11 0 2 := ⟨_, _, _, _, zCX11, by decide, rfl, zi2 216 rfl rfl, Or.inr ⟨rfl, rfl, rfl⟩⟩
theorem pX11_init_13 : zFP yX11_init 13 11 2 0 := ⟨_, _, _, _, zCX11, by decide, rfl, zi2 218 rfl rfl, Or.inl rfl⟩
theorem kX11_19 : zCL RX11 19 mJ4_init_da8c8 0 := ⟨zi1 40 rfl rfl, wJ4_init_da8c8, zi1 3 rfl rfl, ⟨by decide, by decide, by decide +kernel⟩, by decide⟩
theorem pX11_init_20 : zFP yX11_init 20 11 3 2 := ⟨_, _, _, _, zCX11, by decide, rfl, zi2 219 rfl rfl, Or.inr ⟨rfl, rfl, rfl⟩⟩
theorem pX11_init_27 : zFP yX11_init 27 11 4 2 := ⟨_, _, _, _, zCX11, by decide, rfl, zi2 220 rfl rfl, Or.inr ⟨rfl, rfl, rfl⟩⟩
theorem pX11_init_34 : zFP yX11_init 34 11 5 2 := ⟨_, _, _, _, zCX11, by decide, rfl, zi2 221 rfl rfl, Or.inr ⟨rfl, rfl, rfl⟩⟩
theorem gX11_27 : zFL RX11 27 11 4 2 := ⟨_, _, _, _, zCX11, by decide, rfl, zi2 220 rfl rfl⟩
theorem gX11_34 : zFL RX11 34 11 5 2 := ⟨_, _, _, _, zCX11, by decide, rfl, zi2 221 rfl rfl⟩
theorem kX11_40 : zCL RX11 40 mX10_init 2 := ⟨zi2 18 rfl rfl, wX10_init, zi1 8 rfl rfl, ⟨by decide, by decide, by decide +kernel⟩, by decide⟩
theorem pX11_init_43 : zFP yX11_init 43 11 6 2 := ⟨_, _, _, _, zCX11, by decide, rfl, zi2 222 rfl rfl, Or.inr ⟨rfl, rfl, rfl⟩⟩
theorem gX11_43 : zFL RX11 43 11 6 2 := ⟨_, _, _, _, zCX11, by decide, rfl, zi2 222 rfl rfl⟩
theorem kX11_49 : zCL RX11 49 mX5_init 3 := ⟨zi2 37 rfl rfl, wX5_init, zi1 9 rfl rfl, ⟨by decide, by decide, by decide +kernel⟩, by decide⟩
theorem pX11_init_52 : zFP yX11_init 52 11 7 2 := ⟨_, _, _, _, zCX11, by decide, rfl, zi2 223 rfl rfl, Or.inr ⟨rfl, rfl, rfl⟩⟩
theorem kX11_58 : zCL RX11 58 mX3_init 3 := ⟨zi2 86 rfl rfl, wX3_init, zi1 10 rfl rfl, ⟨by decide, by decide, by decide +kernel⟩, by decide⟩
theorem pX11_init_59 : zFP yX11_init 59 11 8 2 := ⟨_, _, _, _, zCX11, by decide, rfl, zi2 224 rfl rfl, Or.inr ⟨rfl, rfl, rfl⟩⟩
theorem kX11_65 : zCL RX11 65 mX4_init 0 := ⟨zi2 105 rfl rfl, wX4_init, zi1 11 rfl rfl, ⟨by decide, by decide, by decide +kernel⟩, by decide⟩
theorem pX11_init_66 : zFP yX11_init 66 11 9 2 := ⟨_, _, _, _, zCX11, by decide, rfl, zi2 225 rfl rfl, Or.inr ⟨rfl, rfl, rfl⟩⟩
theorem gX11_9 : zFL RX11 9 11 0 2 := ⟨_, _, _, _, zCX11, by decide, rfl, zi2 216 rfl rfl⟩
theorem kX11_72 : zCL RX11 72 mX9_init 1 := ⟨zi2 133 rfl rfl, wX9_init, zi1 12 rfl rfl, ⟨by decide, by decide, by decide +kernel⟩, by decide⟩
theorem pX11_init_75 : zFP yX11_init 75 11 10 2 := ⟨_, _, _, _, zCX11, by decide, rfl, zi2 226 rfl rfl, Or.inr ⟨rfl, rfl, rfl⟩⟩
theorem gX11_75 : zFL RX11 75 11 10 2 := ⟨_, _, _, _, zCX11, by decide, rfl, zi2 226 rfl rfl⟩
theorem kX11_81 : zCL RX11 81 mX2_init 1 := ⟨zi2 170 rfl rfl, wX2_init, zi1 13 rfl rfl, ⟨by decide, by decide, by decide +kernel⟩, by decide⟩
theorem pX11_init_84 : zFP yX11_init 84 11 11 2 := ⟨_, _, _, _, zCX11, by decide, rfl, zi2 227 rfl rfl, Or.inr ⟨rfl, rfl, rfl⟩⟩
theorem kX11_90 : zCL RX11 90 mX7_init 4 := ⟨zi2 192 rfl rfl, wX7_init, zi1 14 rfl rfl, ⟨by decide, by decide, by decide +kernel⟩, by decide⟩
theorem pX11_init_93 : zFP yX11_init 93 11 12 2 := ⟨_, _, _, _, zCX11, by decide, rfl, zi2 228 rfl rfl, Or.inr ⟨rfl, rfl, rfl⟩⟩
theorem kX11_97 : zCL RX11 97 mX8_clear 0 := ⟨zi2 209 rfl rfl, wX8_clear, zi1 7 rfl rfl, ⟨by decide, by decide, by decide +kernel⟩, by decide⟩
theorem gX11_100 : zFL RX11 100 11 1 0 := ⟨_, _, _, _, zCX11, by decide, rfl, zi2 217 rfl rfl⟩
theorem kX11_103 : zCL RX11 103 mX11_append 1 := ⟨zi3 20 rfl rfl, wX11_append, zi1 1 rfl rfl, ⟨by decide, by decide, by decide +kernel⟩, by decide⟩
theorem pX11_append_100 : zFP yX11_append 100 11 1 0 := ⟨_, _, _, _, zCX11, by decide, rfl, zi2 217 rfl rfl, Or.inl rfl⟩
theorem kX11_107 : zCL RX11 107 mX11_checkLength 2 := ⟨zi4 99 rfl rfl, wX11_checkLength, zi1 1 rfl rfl, ⟨by decide, by decide, by decide +kernel⟩, by decide⟩
theorem gX11_84 : zFL RX11 84 11 11 2 := ⟨_, _, _, _, zCX11, by decide, rfl, zi2 227 rfl rfl⟩
theorem kX11_111 : zCL RX11 111 mX2_read 1 := ⟨zi4 169 rfl rfl, wX2_read, zi1 13 rfl rfl, ⟨by decide, by decide, by decide +kernel⟩, by decide⟩
theorem kX11_114 : zCL RX11 114 mX11_finishReading 0 := ⟨zi5 47 rfl rfl, wX11_finishReading, zi1 1 rfl rfl, ⟨by decide, by decide, by decide +kernel⟩, by decide⟩
theorem kX11_117 : zCL RX11 117 mX9_failed 0 := ⟨zi5 51 rfl rfl, wX9_failed, zi1 12 rfl rfl, ⟨by decide, by decide, by decide +kernel⟩, by decide⟩
theorem gX11_121 : zFL RX11 121 9 6 0 := ⟨_, _, _, _, zCX9, by decide, rfl, zi2 148 rfl rfl⟩
theorem gX11_124 : zFL RX11 124 2 1 2 := ⟨_, _, _, _, zCX2, by decide, rfl, zi2 180 rfl rfl⟩
theorem kX11_125 : zCL RX11 125 mX1_copyFrom 1 := ⟨zi5 55 rfl rfl, wX1_copyFrom, zi1 6 rfl rfl, ⟨by decide, by decide, by decide +kernel⟩, by decide⟩
theorem gX11_129 : zFL RX11 129 2 2 2 := ⟨_, _, _, _, zCX2, by decide, rfl, zi2 182 rfl rfl⟩
theorem kX11_130 : zCL RX11 130 mX8_copyFrom 1 := ⟨zi4 86 rfl rfl, wX8_copyFrom, zi1 7 rfl rfl, ⟨by decide, by decide, by decide +kernel⟩, by decide⟩
theorem gX11_66 : zFL RX11 66 11 9 2 := ⟨_, _, _, _, zCX11, by decide, rfl, zi2 225 rfl rfl⟩
theorem kX11_133 : zCL RX11 133 mX4_discardAll 0 := ⟨zi5 60 rfl rfl, wX4_discardAll, zi1 11 rfl rfl, ⟨by decide, by decide, by decide +kernel⟩, by decide⟩
theorem kX11_136 : zCL RX11 136 mX10_refresh 0 := ⟨zi4 19 rfl rfl, wX10_refresh, zi1 8 rfl rfl, ⟨by decide, by decide, by decide +kernel⟩, by decide⟩
theorem gX11_139 : zFL RX11 139 1 3 0 := ⟨_, _, _, _, zCX1, by decide, rfl, zi1 95 rfl rfl⟩
theorem gX11_93 : zFL RX11 93 11 12 2 := ⟨_, _, _, _, zCX11, by decide, rfl, zi2 228 rfl rfl⟩
theorem kX11_142 : zCL RX11 142 mX7_evaluate 1 := ⟨zi7 114 rfl rfl, wX7_evaluate, zi1 14 rfl rfl, ⟨by decide, by decide, by decide +kernel⟩, by decide⟩
theorem oX11_146 : Cond.constant RX11 146 (Int32.ofInt (-1000000000)) ∈ lw_all := by
  rw [show Int32.ofInt (-1000000000) = (-1000000000 : Int32) by decide]
  exact zi7 185 rfl rfl
theorem pX11_finishReading_100 : zFP yX11_finishReading 100 11 1 0 := ⟨_, _, _, _, zCX11, by decide, rfl, zi2 217 rfl rfl, Or.inl rfl⟩
theorem gX11_154 : zFL RX11 154 9 7 0 := ⟨_, _, _, _, zCX9, by decide, rfl, zi2 150 rfl rfl⟩
theorem pX11_finishReading_13 : zFP yX11_finishReading 13 11 2 0 := ⟨_, _, _, _, zCX11, by decide, rfl, zi2 218 rfl rfl, Or.inl rfl⟩
theorem gX11_13 : zFL RX11 13 11 2 0 := ⟨_, _, _, _, zCX11, by decide, rfl, zi2 218 rfl rfl⟩
theorem gX11_155 : zFL RX11 155 1 0 0 := ⟨_, _, _, _, zCX1, by decide, rfl, zi1 80 rfl rfl⟩
theorem gX11_158 : zFL RX11 158 1 7 0 := ⟨_, _, _, _, zCX1, by decide, rfl, zi1 116 rfl rfl⟩
theorem gX11_161 : zFL RX11 161 8 0 0 := ⟨_, _, _, _, zCX8, by decide, rfl, zi1 172 rfl rfl⟩
theorem gX11_164 : zFL RX11 164 8 2 0 := ⟨_, _, _, _, zCX8, by decide, rfl, zi1 178 rfl rfl⟩
theorem gX11_167 : zFL RX11 167 8 1 0 := ⟨_, _, _, _, zCX8, by decide, rfl, zi1 175 rfl rfl⟩
theorem kX11_170 : zCL RX11 170 mX8_countBooked 1 := ⟨zi5 72 rfl rfl, wX8_countBooked, zi1 7 rfl rfl, ⟨by decide, by decide, by decide +kernel⟩, by decide⟩
theorem kX11_173 : zCL RX11 173 mX8_countHeld 1 := ⟨zi5 76 rfl rfl, wX8_countHeld, zi1 7 rfl rfl, ⟨by decide, by decide, by decide +kernel⟩, by decide⟩
theorem kX11_181 : zCL RX11 181 mX11_checkHouse 1 := ⟨zi5 100 rfl rfl, wX11_checkHouse, zi1 1 rfl rfl, ⟨by decide, by decide, by decide +kernel⟩, by decide⟩
theorem gX11_184 : zFL RX11 184 1 1 2 := ⟨_, _, _, _, zCX1, by decide, rfl, zi1 85 rfl rfl⟩
theorem gX11_188 : zFL RX11 188 8 3 2 := ⟨_, _, _, _, zCX8, by decide, rfl, zi1 182 rfl rfl⟩
theorem gX11_191 : zFL RX11 191 1 2 2 := ⟨_, _, _, _, zCX1, by decide, rfl, zi1 90 rfl rfl⟩
theorem kX11_194 : zCL RX11 194 mX10_houseTakings 1 := ⟨zi5 105 rfl rfl, wX10_houseTakings, zi1 8 rfl rfl, ⟨by decide, by decide, by decide +kernel⟩, by decide⟩
theorem kX11_197 : zCL RX11 197 mX10_houseShares 1 := ⟨zi5 109 rfl rfl, wX10_houseShares, zi1 8 rfl rfl, ⟨by decide, by decide, by decide +kernel⟩, by decide⟩
theorem kX11_200 : zCL RX11 200 mX10_houseRents 1 := ⟨zi5 110 rfl rfl, wX10_houseRents, zi1 8 rfl rfl, ⟨by decide, by decide, by decide +kernel⟩, by decide⟩
theorem kX11_203 : zCL RX11 203 mX11_checkScreen 1 := ⟨zi5 118 rfl rfl, wX11_checkScreen, zi1 1 rfl rfl, ⟨by decide, by decide, by decide +kernel⟩, by decide⟩
theorem gX11_206 : zFL RX11 206 1 4 2 := ⟨_, _, _, _, zCX1, by decide, rfl, zi1 102 rfl rfl⟩
theorem gX11_209 : zFL RX11 209 1 5 2 := ⟨_, _, _, _, zCX1, by decide, rfl, zi1 106 rfl rfl⟩
theorem gX11_212 : zFL RX11 212 1 6 2 := ⟨_, _, _, _, zCX1, by decide, rfl, zi1 110 rfl rfl⟩
theorem gX11_215 : zFL RX11 215 8 4 2 := ⟨_, _, _, _, zCX8, by decide, rfl, zi1 186 rfl rfl⟩
theorem gX11_218 : zFL RX11 218 8 6 2 := ⟨_, _, _, _, zCX8, by decide, rfl, zi1 192 rfl rfl⟩
theorem gX11_221 : zFL RX11 221 8 7 2 := ⟨_, _, _, _, zCX8, by decide, rfl, zi1 195 rfl rfl⟩
theorem gX11_224 : zFL RX11 224 8 8 2 := ⟨_, _, _, _, zCX8, by decide, rfl, zi1 197 rfl rfl⟩
theorem gX11_227 : zFL RX11 227 8 9 2 := ⟨_, _, _, _, zCX8, by decide, rfl, zi1 204 rfl rfl⟩
theorem kX11_230 : zCL RX11 230 mX10_screenTakings 1 := ⟨zi5 123 rfl rfl, wX10_screenTakings, zi1 8 rfl rfl, ⟨by decide, by decide, by decide +kernel⟩, by decide⟩
theorem kX11_233 : zCL RX11 233 mX11_checkFilm 1 := ⟨zi5 131 rfl rfl, wX11_checkFilm, zi1 1 rfl rfl, ⟨by decide, by decide, by decide +kernel⟩, by decide⟩
theorem gX11_236 : zFL RX11 236 1 8 2 := ⟨_, _, _, _, zCX1, by decide, rfl, zi1 119 rfl rfl⟩
theorem gX11_239 : zFL RX11 239 1 9 2 := ⟨_, _, _, _, zCX1, by decide, rfl, zi1 123 rfl rfl⟩
theorem gX11_242 : zFL RX11 242 1 10 2 := ⟨_, _, _, _, zCX1, by decide, rfl, zi1 126 rfl rfl⟩
theorem gX11_245 : zFL RX11 245 1 11 2 := ⟨_, _, _, _, zCX1, by decide, rfl, zi1 130 rfl rfl⟩
theorem kX11_248 : zCL RX11 248 mX8_ageOf 1 := ⟨zi5 136 rfl rfl, wX8_ageOf, zi1 7 rfl rfl, ⟨by decide, by decide, by decide +kernel⟩, by decide⟩
theorem gX11_251 : zFL RX11 251 8 11 2 := ⟨_, _, _, _, zCX8, by decide, rfl, zi1 212 rfl rfl⟩
theorem kX11_254 : zCL RX11 254 mX10_filmTakings 1 := ⟨zi5 140 rfl rfl, wX10_filmTakings, zi1 8 rfl rfl, ⟨by decide, by decide, by decide +kernel⟩, by decide⟩
theorem gX11_257 : zFL RX11 257 8 12 2 := ⟨_, _, _, _, zCX8, by decide, rfl, zi1 215 rfl rfl⟩
theorem gX11_261 : zFL RX11 261 1 12 2 := ⟨_, _, _, _, zCX1, by decide, rfl, zi1 134 rfl rfl⟩
theorem kX11_264 : zCL RX11 264 mX11_checkPlace 1 := ⟨zi5 156 rfl rfl, wX11_checkPlace, zi1 1 rfl rfl, ⟨by decide, by decide, by decide +kernel⟩, by decide⟩
theorem kX11_267 : zCL RX11 267 mX8_printsAt 2 := ⟨zi5 161 rfl rfl, wX8_printsAt, zi1 7 rfl rfl, ⟨by decide, by decide, by decide +kernel⟩, by decide⟩
theorem kX11_271 : zCL RX11 271 mX11_checkDay 1 := ⟨zi5 169 rfl rfl, wX11_checkDay, zi1 1 rfl rfl, ⟨by decide, by decide, by decide +kernel⟩, by decide⟩
theorem kX11_274 : zCL RX11 274 mX8_filmOn 2 := ⟨zi5 174 rfl rfl, wX8_filmOn, zi1 7 rfl rfl, ⟨by decide, by decide, by decide +kernel⟩, by decide⟩
theorem kX11_277 : zCL RX11 277 mX10_visitorsOn 2 := ⟨zi5 182 rfl rfl, wX10_visitorsOn, zi1 8 rfl rfl, ⟨by decide, by decide, by decide +kernel⟩, by decide⟩
theorem kX11_280 : zCL RX11 280 mX10_shareIn 2 := ⟨zi5 190 rfl rfl, wX10_shareIn, zi1 8 rfl rfl, ⟨by decide, by decide, by decide +kernel⟩, by decide⟩
theorem kX11_283 : zCL RX11 283 mX8_runOf 2 := ⟨zi5 198 rfl rfl, wX8_runOf, zi1 7 rfl rfl, ⟨by decide, by decide, by decide +kernel⟩, by decide⟩
theorem kX11_286 : zCL RX11 286 mX10_fillsWell 1 := ⟨zi5 206 rfl rfl, wX10_fillsWell, zi1 8 rfl rfl, ⟨by decide, by decide, by decide +kernel⟩, by decide⟩
theorem kX11_290 : zCL RX11 290 mX10_expectedTakings 2 := ⟨zi5 214 rfl rfl, wX10_expectedTakings, zi1 8 rfl rfl, ⟨by decide, by decide, by decide +kernel⟩, by decide⟩
theorem kX11_295 : zCL RX11 295 mX10_filmAtPlace 1 := ⟨zi5 225 rfl rfl, wX10_filmAtPlace, zi1 8 rfl rfl, ⟨by decide, by decide, by decide +kernel⟩, by decide⟩
theorem gX11_52 : zFL RX11 52 11 7 2 := ⟨_, _, _, _, zCX11, by decide, rfl, zi2 223 rfl rfl⟩
theorem kX11_298 : zCL RX11 298 mX5_greatestGain 1 := ⟨zi6 1 rfl rfl, wX5_greatestGain, zi1 9 rfl rfl, ⟨by decide, by decide, by decide +kernel⟩, by decide⟩
theorem kX11_301 : zCL RX11 301 mX5_findBest 1 := ⟨zi6 9 rfl rfl, wX5_findBest, zi1 9 rfl rfl, ⟨by decide, by decide, by decide +kernel⟩, by decide⟩
theorem kX11_304 : zCL RX11 304 mX5_filmFor 1 := ⟨zi6 17 rfl rfl, wX5_filmFor, zi1 9 rfl rfl, ⟨by decide, by decide, by decide +kernel⟩, by decide⟩
theorem kX11_307 : zCL RX11 307 mX5_findMove 0 := ⟨zi3 32 rfl rfl, wX5_findMove, zi1 9 rfl rfl, ⟨by decide, by decide, by decide +kernel⟩, by decide⟩
theorem gX11_311 : zFL RX11 311 8 14 2 := ⟨_, _, _, _, zCX8, by decide, rfl, zi1 221 rfl rfl⟩
theorem kX11_316 : zCL RX11 316 mX8_logged 2 := ⟨zi6 36 rfl rfl, wX8_logged, zi1 7 rfl rfl, ⟨by decide, by decide, by decide +kernel⟩, by decide⟩
theorem kX11_319 : zCL RX11 319 mX10_allRoom 0 := ⟨zi3 120 rfl rfl, wX10_allRoom, zi1 8 rfl rfl, ⟨by decide, by decide, by decide +kernel⟩, by decide⟩
theorem kX11_322 : zCL RX11 322 mX10_allVisitors 0 := ⟨zi3 125 rfl rfl, wX10_allVisitors, zi1 8 rfl rfl, ⟨by decide, by decide, by decide +kernel⟩, by decide⟩
theorem kX11_325 : zCL RX11 325 mX11_takeBooking 4 := ⟨zi6 47 rfl rfl, wX11_takeBooking, zi1 1 rfl rfl, ⟨by decide, by decide, by decide +kernel⟩, by decide⟩
theorem kX11_331 : zCL RX11 331 mX10_hasPrintsFor 4 := ⟨zi6 51 rfl rfl, wX10_hasPrintsFor, zi1 8 rfl rfl, ⟨by decide, by decide, by decide +kernel⟩, by decide⟩
theorem kX11_335 : zCL RX11 335 mX4_record 1 := ⟨zi3 137 rfl rfl, wX4_record, zi1 11 rfl rfl, ⟨by decide, by decide, by decide +kernel⟩, by decide⟩
theorem kX11_338 : zCL RX11 338 mX8_setBooking 4 := ⟨zi6 56 rfl rfl, wX8_setBooking, zi1 7 rfl rfl, ⟨by decide, by decide, by decide +kernel⟩, by decide⟩
theorem kX11_344 : zCL RX11 344 mX10_printsNeeded 2 := ⟨zi6 80 rfl rfl, wX10_printsNeeded, zi1 8 rfl rfl, ⟨by decide, by decide, by decide +kernel⟩, by decide⟩
theorem kX11_347 : zCL RX11 347 mX8_addPrints 3 := ⟨zi6 81 rfl rfl, wX8_addPrints, zi1 7 rfl rfl, ⟨by decide, by decide, by decide +kernel⟩, by decide⟩
theorem pX11_move_167 : zFP yX11_move 167 8 1 0 := ⟨_, _, _, _, zCX8, by decide, rfl, zi1 175 rfl rfl, Or.inl rfl⟩
theorem gX11_59 : zFL RX11 59 11 8 2 := ⟨_, _, _, _, zCX11, by decide, rfl, zi2 224 rfl rfl⟩
theorem kX11_351 : zCL RX11 351 mX3_closeWeek 0 := ⟨zi3 153 rfl rfl, wX3_closeWeek, zi1 10 rfl rfl, ⟨by decide, by decide, by decide +kernel⟩, by decide⟩
theorem kX11_354 : zCL RX11 354 mX5_bookFound 0 := ⟨zi6 89 rfl rfl, wX5_bookFound, zi1 9 rfl rfl, ⟨by decide, by decide, by decide +kernel⟩, by decide⟩
theorem pX11_setFee_164 : zFP yX11_setFee 164 8 2 0 := ⟨_, _, _, _, zCX8, by decide, rfl, zi1 178 rfl rfl, Or.inl rfl⟩
theorem gX11_20 : zFL RX11 20 11 3 2 := ⟨_, _, _, _, zCX11, by decide, rfl, zi2 219 rfl rfl⟩
theorem kX11_361 : zCL RX11 361 mJ4_setLength_d00df 1 := ⟨zi6 129 rfl rfl, wJ4_setLength_d00df, zi1 3 rfl rfl, ⟨by decide, by decide, by decide +kernel⟩, by decide⟩
theorem kX11_364 : zCL RX11 364 mJ4_append_cf468 1 := ⟨zi7 87 rfl rfl, wJ4_append_cf468, zi1 3 rfl rfl, ⟨by decide, by decide, by decide +kernel⟩, by decide⟩
theorem kX11_367 : zCL RX11 367 mJ4_append_bf812 1 := ⟨zi7 100 rfl rfl, wJ4_append_bf812, zi1 3 rfl rfl, ⟨by decide, by decide, by decide +kernel⟩, by decide⟩
theorem kX11_370 : zCL RX11 370 mX11_appendFilm 1 := ⟨zi7 101 rfl rfl, wX11_appendFilm, zi1 1 rfl rfl, ⟨by decide, by decide, by decide +kernel⟩, by decide⟩
theorem kX11_375 : zCL RX11 375 mJ4_append_15ec4 1 := ⟨zi7 106 rfl rfl, wJ4_append_15ec4, zi1 3 rfl rfl, ⟨by decide, by decide, by decide +kernel⟩, by decide⟩
theorem kX11_378 : zCL RX11 378 mJ4_length_8abf5 0 := ⟨zi4 35 rfl rfl, wJ4_length_8abf5, zi1 3 rfl rfl, ⟨by decide, by decide, by decide +kernel⟩, by decide⟩
theorem kX11_380 : zCL RX11 380 mJ4_charAt_5068e 1 := ⟨zi4 42 rfl rfl, wJ4_charAt_5068e, zi1 3 rfl rfl, ⟨by decide, by decide, by decide +kernel⟩, by decide⟩
theorem gX11_384 : zFL RX11 384 4 2 0 := ⟨_, _, _, _, zCX4, by decide, rfl, zi2 115 rfl rfl⟩
theorem kX11_387 : zCL RX11 387 mX4_takeBack 1 := ⟨zi4 78 rfl rfl, wX4_takeBack, zi1 11 rfl rfl, ⟨by decide, by decide, by decide +kernel⟩, by decide⟩
theorem gX11_390 : zFL RX11 390 4 3 2 := ⟨_, _, _, _, zCX4, by decide, rfl, zi2 117 rfl rfl⟩
theorem pX11_saveSnapshot_393 : zFP yX11_saveSnapshot 393 4 4 3 := ⟨_, _, _, _, zCX4, by decide, rfl, zi2 119 rfl rfl, Or.inl rfl⟩
theorem gX11_393 : zFL RX11 393 4 4 3 := ⟨_, _, _, _, zCX4, by decide, rfl, zi2 119 rfl rfl⟩
theorem pX11_restoreSnapshot_384 : zFP yX11_restoreSnapshot 384 4 2 0 := ⟨_, _, _, _, zCX4, by decide, rfl, zi2 115 rfl rfl, Or.inl rfl⟩
theorem kX11_405 : zCL RX11 405 mJ9_min_7cf53 2 := ⟨zi3 148 rfl rfl, wJ9_min_7cf53, zi1 21 rfl rfl, ⟨by decide, by decide, by decide +kernel⟩, by decide⟩
theorem pX12_init_9 : zFP yX12_init 9 12 0 2 := ⟨_, _, _, _, zCX12, by decide, rfl, zi7 206 rfl rfl, Or.inr ⟨rfl, rfl, rfl⟩⟩
theorem pX12_init_13 : zFP yX12_init 13 12 1 2 := ⟨_, _, _, _, zCX12, by decide, rfl, zi7 207 rfl rfl, Or.inr ⟨rfl, rfl, rfl⟩⟩
theorem pX12_init_16 : zFP yX12_init 16 12 2 2 := ⟨_, _, _, _, zCX12, by decide, rfl, zi7 208 rfl rfl, Or.inr ⟨rfl, rfl, rfl⟩⟩
theorem pX12_init_19 : zFP yX12_init 19 12 3 2 := ⟨_, _, _, _, zCX12, by decide, rfl, zi7 209 rfl rfl, Or.inr ⟨rfl, rfl, rfl⟩⟩
theorem pX12_init_22 : zFP yX12_init 22 12 7 2 := ⟨_, _, _, _, zCX12, by decide, rfl, zi7 213 rfl rfl, Or.inr ⟨rfl, rfl, rfl⟩⟩
theorem pX12_init_25 : zFP yX12_init 25 12 8 2 := ⟨_, _, _, _, zCX12, by decide, rfl, zi7 214 rfl rfl, Or.inr ⟨rfl, rfl, rfl⟩⟩
theorem pX12_init_29 : zFP yX12_init 29 12 9 2 := ⟨_, _, _, _, zCX12, by decide, rfl, zi7 215 rfl rfl, Or.inr ⟨rfl, rfl, rfl⟩⟩
theorem pX12_init_32 : zFP yX12_init 32 12 10 2 := ⟨_, _, _, _, zCX12, by decide, rfl, zi7 216 rfl rfl, Or.inr ⟨rfl, rfl, rfl⟩⟩
theorem pX12_init_35 : zFP yX12_init 35 12 11 2 := ⟨_, _, _, _, zCX12, by decide, rfl, zi7 217 rfl rfl, Or.inr ⟨rfl, rfl, rfl⟩⟩
theorem pX12_init_38 : zFP yX12_init 38 12 14 2 := ⟨_, _, _, _, zCX12, by decide, rfl, zi7 220 rfl rfl, Or.inr ⟨rfl, rfl, rfl⟩⟩
theorem pX12_init_41 : zFP yX12_init 41 12 15 2 := ⟨_, _, _, _, zCX12, by decide, rfl, zi7 221 rfl rfl, Or.inr ⟨rfl, rfl, rfl⟩⟩
theorem pX12_init_44 : zFP yX12_init 44 12 16 2 := ⟨_, _, _, _, zCX12, by decide, rfl, zi7 222 rfl rfl, Or.inr ⟨rfl, rfl, rfl⟩⟩
theorem pX12_init_47 : zFP yX12_init 47 12 18 2 := ⟨_, _, _, _, zCX12, by decide, rfl, zi7 224 rfl rfl, Or.inr ⟨rfl, rfl, rfl⟩⟩
theorem pX12_init_50 : zFP yX12_init 50 12 26 0 := ⟨_, _, _, _, zCX12, by decide, rfl, zi7 232 rfl rfl, Or.inl rfl⟩
theorem pX12_init_74 : zFP yX12_init 74 12 28 2 := ⟨_, _, _, _, zCX12, by decide, rfl, zi7 234 rfl rfl, Or.inr ⟨rfl, rfl, rfl⟩⟩
theorem pX12_init_78 : zFP yX12_init 78 12 29 2 := ⟨_, _, _, _, zCX12, by decide, rfl, zi7 235 rfl rfl, Or.inr ⟨rfl, rfl, rfl⟩⟩
theorem pX12_init_81 : zFP yX12_init 81 12 30 2 := ⟨_, _, _, _, zCX12, by decide, rfl, zi7 236 rfl rfl, Or.inr ⟨rfl, rfl, rfl⟩⟩
theorem gX12_9 : zFL RX12 9 12 0 2 := ⟨_, _, _, _, zCX12, by decide, rfl, zi7 206 rfl rfl⟩
theorem kX12_85 : zCL RX12 85 mX12_clear 1 := ⟨zi7 203 rfl rfl, wX12_clear, zi1 16 rfl rfl, ⟨by decide, by decide, by decide +kernel⟩, by decide⟩
theorem gX12_89 : zFL RX12 89 12 5 0 := ⟨_, _, _, _, zCX12, by decide, rfl, zi7 211 rfl rfl⟩
theorem pX12_raise_89 : zFP yX12_raise 89 12 5 0 := ⟨_, _, _, _, zCX12, by decide, rfl, zi7 211 rfl rfl, Or.inl rfl⟩
theorem kX12_92 : zCL RX12 92 mX12_houseAt 2 := ⟨zi8 159 rfl rfl, wX12_houseAt, zi1 16 rfl rfl, ⟨by decide, by decide, by decide +kernel⟩, by decide⟩
theorem kX12_96 : zCL RX12 96 mX12_screenAt 2 := ⟨zi8 85 rfl rfl, wX12_screenAt, zi1 16 rfl rfl, ⟨by decide, by decide, by decide +kernel⟩, by decide⟩
theorem kX12_99 : zCL RX12 99 mX12_filmAt 2 := ⟨zi8 127 rfl rfl, wX12_filmAt, zi1 16 rfl rfl, ⟨by decide, by decide, by decide +kernel⟩, by decide⟩
theorem kX12_102 : zCL RX12 102 mX12_printsAt 2 := ⟨zi9 14 rfl rfl, wX12_printsAt, zi1 16 rfl rfl, ⟨by decide, by decide, by decide +kernel⟩, by decide⟩
theorem kX12_105 : zCL RX12 105 mX12_houses 0 := ⟨zi8 100 rfl rfl, wX12_houses, zi1 16 rfl rfl, ⟨by decide, by decide, by decide +kernel⟩, by decide⟩
theorem kX12_109 : zCL RX12 109 mX12_inRange 3 := ⟨zi8 104 rfl rfl, wX12_inRange, zi1 16 rfl rfl, ⟨by decide, by decide, by decide +kernel⟩, by decide⟩
theorem kX12_113 : zCL RX12 113 mX12_screens 0 := ⟨zi8 77 rfl rfl, wX12_screens, zi1 16 rfl rfl, ⟨by decide, by decide, by decide +kernel⟩, by decide⟩
theorem kX12_116 : zCL RX12 116 mX12_films 0 := ⟨zi8 111 rfl rfl, wX12_films, zi1 16 rfl rfl, ⟨by decide, by decide, by decide +kernel⟩, by decide⟩
theorem kX12_119 : zCL RX12 119 mX12_of 2 := ⟨zi8 81 rfl rfl, wX12_of, zi1 16 rfl rfl, ⟨by decide, by decide, by decide +kernel⟩, by decide⟩
theorem kX12_122 : zCL RX12 122 mX12_ofHouse 2 := ⟨zi8 155 rfl rfl, wX12_ofHouse, zi1 16 rfl rfl, ⟨by decide, by decide, by decide +kernel⟩, by decide⟩
theorem kX12_125 : zCL RX12 125 mX12_isSplit 1 := ⟨zi8 146 rfl rfl, wX12_isSplit, zi1 16 rfl rfl, ⟨by decide, by decide, by decide +kernel⟩, by decide⟩
theorem kX12_129 : zCL RX12 129 mX12_shownOn 2 := ⟨zi8 142 rfl rfl, wX12_shownOn, zi1 16 rfl rfl, ⟨by decide, by decide, by decide +kernel⟩, by decide⟩
theorem kX12_132 : zCL RX12 132 mX12_shows 4 := ⟨zi8 138 rfl rfl, wX12_shows, zi1 16 rfl rfl, ⟨by decide, by decide, by decide +kernel⟩, by decide⟩
theorem kX12_136 : zCL RX12 136 mX12_showing 3 := ⟨zi8 198 rfl rfl, wX12_showing, zi1 16 rfl rfl, ⟨by decide, by decide, by decide +kernel⟩, by decide⟩
theorem kX12_140 : zCL RX12 140 mJ9_max_7cf53 2 := ⟨zi8 202 rfl rfl, wJ9_max_7cf53, zi1 21 rfl rfl, ⟨by decide, by decide, by decide +kernel⟩, by decide⟩
theorem kX12_145 : zCL RX12 145 mX12_needed 2 := ⟨zi8 194 rfl rfl, wX12_needed, zi1 16 rfl rfl, ⟨by decide, by decide, by decide +kernel⟩, by decide⟩
theorem kX12_148 : zCL RX12 148 mX12_ofFilm 2 := ⟨zi8 123 rfl rfl, wX12_ofFilm, zi1 16 rfl rfl, ⟨by decide, by decide, by decide +kernel⟩, by decide⟩
theorem kX12_151 : zCL RX12 151 mX12_ageOf 1 := ⟨zi8 130 rfl rfl, wX12_ageOf, zi1 16 rfl rfl, ⟨by decide, by decide, by decide +kernel⟩, by decide⟩
theorem gX12_25 : zFL RX12 25 12 8 2 := ⟨_, _, _, _, zCX12, by decide, rfl, zi7 214 rfl rfl⟩
theorem kX12_155 : zCL RX12 155 mX12_capacityOf 1 := ⟨zi8 150 rfl rfl, wX12_capacityOf, zi1 16 rfl rfl, ⟨by decide, by decide, by decide +kernel⟩, by decide⟩
theorem kX12_158 : zCL RX12 158 mX12_demandOf 1 := ⟨zi8 119 rfl rfl, wX12_demandOf, zi1 16 rfl rfl, ⟨by decide, by decide, by decide +kernel⟩, by decide⟩
theorem kX12_161 : zCL RX12 161 mX12_largest 3 := ⟨zi8 134 rfl rfl, wX12_largest, zi1 16 rfl rfl, ⟨by decide, by decide, by decide +kernel⟩, by decide⟩
theorem gX12_22 : zFL RX12 22 12 7 2 := ⟨_, _, _, _, zCX12, by decide, rfl, zi7 213 rfl rfl⟩
theorem kX12_164 : zCL RX12 164 mJ9_min_7cf53 2 := ⟨zi8 154 rfl rfl, wJ9_min_7cf53, zi1 21 rfl rfl, ⟨by decide, by decide, by decide +kernel⟩, by decide⟩
theorem kX12_167 : zCL RX12 167 mX12_layDay 3 := ⟨zi8 115 rfl rfl, wX12_layDay, zi1 16 rfl rfl, ⟨by decide, by decide, by decide +kernel⟩, by decide⟩
theorem kX12_171 : zCL RX12 171 mX12_guestsOf 1 := ⟨zi8 226 rfl rfl, wX12_guestsOf, zi1 16 rfl rfl, ⟨by decide, by decide, by decide +kernel⟩, by decide⟩
theorem kX12_174 : zCL RX12 174 mX12_priceAt 1 := ⟨zi8 178 rfl rfl, wX12_priceAt, zi1 16 rfl rfl, ⟨by decide, by decide, by decide +kernel⟩, by decide⟩
theorem kX12_177 : zCL RX12 177 mX12_takingsBy 2 := ⟨zi8 174 rfl rfl, wX12_takingsBy, zi1 16 rfl rfl, ⟨by decide, by decide, by decide +kernel⟩, by decide⟩
theorem kX12_180 : zCL RX12 180 mX12_runAt 2 := ⟨zi8 207 rfl rfl, wX12_runAt, zi1 16 rfl rfl, ⟨by decide, by decide, by decide +kernel⟩, by decide⟩
theorem kX12_183 : zCL RX12 183 mX12_isShown 2 := ⟨zi8 190 rfl rfl, wX12_isShown, zi1 16 rfl rfl, ⟨by decide, by decide, by decide +kernel⟩, by decide⟩
theorem kX12_187 : zCL RX12 187 mX12_takingsIn 2 := ⟨zi8 170 rfl rfl, wX12_takingsIn, zi1 16 rfl rfl, ⟨by decide, by decide, by decide +kernel⟩, by decide⟩
theorem kX12_190 : zCL RX12 190 mX12_shareBy 3 := ⟨zi8 203 rfl rfl, wX12_shareBy, zi1 16 rfl rfl, ⟨by decide, by decide, by decide +kernel⟩, by decide⟩
theorem kX12_193 : zCL RX12 193 mX12_shareOf 2 := ⟨zi8 186 rfl rfl, wX12_shareOf, zi1 16 rfl rfl, ⟨by decide, by decide, by decide +kernel⟩, by decide⟩
theorem kX12_196 : zCL RX12 196 mX12_daysOf 2 := ⟨zi9 44 rfl rfl, wX12_daysOf, zi1 16 rfl rfl, ⟨by decide, by decide, by decide +kernel⟩, by decide⟩
theorem pX12_layRoster_199 : zFP yX12_layRoster 199 12 12 0 := ⟨_, _, _, _, zCX12, by decide, rfl, zi7 218 rfl rfl, Or.inl rfl⟩
theorem gX12_29 : zFL RX12 29 12 9 2 := ⟨_, _, _, _, zCX12, by decide, rfl, zi7 215 rfl rfl⟩
theorem gX12_199 : zFL RX12 199 12 12 0 := ⟨_, _, _, _, zCX12, by decide, rfl, zi7 218 rfl rfl⟩
theorem gX12_32 : zFL RX12 32 12 10 2 := ⟨_, _, _, _, zCX12, by decide, rfl, zi7 216 rfl rfl⟩
theorem kX12_202 : zCL RX12 202 mX12_printsOf 2 := ⟨zi9 10 rfl rfl, wX12_printsOf, zi1 16 rfl rfl, ⟨by decide, by decide, by decide +kernel⟩, by decide⟩
theorem kX12_205 : zCL RX12 205 mX12_gainOf 2 := ⟨zi9 86 rfl rfl, wX12_gainOf, zi1 16 rfl rfl, ⟨by decide, by decide, by decide +kernel⟩, by decide⟩
theorem kX12_208 : zCL RX12 208 mX12_isHeld 1 := ⟨zi9 52 rfl rfl, wX12_isHeld, zi1 16 rfl rfl, ⟨by decide, by decide, by decide +kernel⟩, by decide⟩
theorem kX12_211 : zCL RX12 211 mX12_layRoster 1 := ⟨zi8 166 rfl rfl, wX12_layRoster, zi1 16 rfl rfl, ⟨by decide, by decide, by decide +kernel⟩, by decide⟩
theorem pX12_layBest_215 : zFP yX12_layBest 215 12 13 0 := ⟨_, _, _, _, zCX12, by decide, rfl, zi7 219 rfl rfl, Or.inl rfl⟩
theorem kX12_218 : zCL RX12 218 mX12_triedGain 1 := ⟨zi9 82 rfl rfl, wX12_triedGain, zi1 16 rfl rfl, ⟨by decide, by decide, by decide +kernel⟩, by decide⟩
theorem gX12_215 : zFL RX12 215 12 13 0 := ⟨_, _, _, _, zCX12, by decide, rfl, zi7 219 rfl rfl⟩
theorem gX12_35 : zFL RX12 35 12 11 2 := ⟨_, _, _, _, zCX12, by decide, rfl, zi7 217 rfl rfl⟩
theorem kX12_221 : zCL RX12 221 mX12_nextTried 0 := ⟨zi9 90 rfl rfl, wX12_nextTried, zi1 16 rfl rfl, ⟨by decide, by decide, by decide +kernel⟩, by decide⟩
theorem kX12_225 : zCL RX12 225 mX12_layBest 1 := ⟨zi9 78 rfl rfl, wX12_layBest, zi1 16 rfl rfl, ⟨by decide, by decide, by decide +kernel⟩, by decide⟩
theorem kX12_228 : zCL RX12 228 mX12_heldScreens 2 := ⟨zi9 106 rfl rfl, wX12_heldScreens, zi1 16 rfl rfl, ⟨by decide, by decide, by decide +kernel⟩, by decide⟩
theorem kX12_231 : zCL RX12 231 mX12_gainIn 1 := ⟨zi9 74 rfl rfl, wX12_gainIn, zi1 16 rfl rfl, ⟨by decide, by decide, by decide +kernel⟩, by decide⟩
theorem gX12_38 : zFL RX12 38 12 14 2 := ⟨_, _, _, _, zCX12, by decide, rfl, zi7 220 rfl rfl⟩
theorem pX12_size_89 : zFP yX12_size 89 12 5 0 := ⟨_, _, _, _, zCX12, by decide, rfl, zi7 211 rfl rfl, Or.inl rfl⟩
theorem kX12_234 : zCL RX12 234 mX12_bookedScreens 1 := ⟨zi8 73 rfl rfl, wX12_bookedScreens, zi1 16 rfl rfl, ⟨by decide, by decide, by decide +kernel⟩, by decide⟩
theorem kX12_238 : zCL RX12 238 mX12_raise 1 := ⟨zi8 88 rfl rfl, wX12_raise, zi1 16 rfl rfl, ⟨by decide, by decide, by decide +kernel⟩, by decide⟩
theorem pX12_house_89 : zFP yX12_house 89 12 5 0 := ⟨_, _, _, _, zCX12, by decide, rfl, zi7 211 rfl rfl, Or.inl rfl⟩
theorem kX12_241 : zCL RX12 241 mX12_isHouse 1 := ⟨zi8 96 rfl rfl, wX12_isHouse, zi1 16 rfl rfl, ⟨by decide, by decide, by decide +kernel⟩, by decide⟩
theorem kX12_244 : zCL RX12 244 mX12_layWeek 0 := ⟨zi8 107 rfl rfl, wX12_layWeek, zi1 16 rfl rfl, ⟨by decide, by decide, by decide +kernel⟩, by decide⟩
theorem kX12_247 : zCL RX12 247 mX12_screensIn 1 := ⟨zi8 162 rfl rfl, wX12_screensIn, zi1 16 rfl rfl, ⟨by decide, by decide, by decide +kernel⟩, by decide⟩
theorem kX12_250 : zCL RX12 250 mX12_sharesIn 1 := ⟨zi8 182 rfl rfl, wX12_sharesIn, zi1 16 rfl rfl, ⟨by decide, by decide, by decide +kernel⟩, by decide⟩
theorem kX12_253 : zCL RX12 253 mX12_rentsIn 1 := ⟨zi8 210 rfl rfl, wX12_rentsIn, zi1 16 rfl rfl, ⟨by decide, by decide, by decide +kernel⟩, by decide⟩
theorem pX12_screen_89 : zFP yX12_screen 89 12 5 0 := ⟨_, _, _, _, zCX12, by decide, rfl, zi7 211 rfl rfl, Or.inl rfl⟩
theorem kX12_256 : zCL RX12 256 mX12_isScreen 1 := ⟨zi8 218 rfl rfl, wX12_isScreen, zi1 16 rfl rfl, ⟨by decide, by decide, by decide +kernel⟩, by decide⟩
theorem kX12_259 : zCL RX12 259 mX12_takingsOf 1 := ⟨zi8 222 rfl rfl, wX12_takingsOf, zi1 16 rfl rfl, ⟨by decide, by decide, by decide +kernel⟩, by decide⟩
theorem pX12_film_89 : zFP yX12_film 89 12 5 0 := ⟨_, _, _, _, zCX12, by decide, rfl, zi7 211 rfl rfl, Or.inl rfl⟩
theorem kX12_262 : zCL RX12 262 mX12_isFilm 1 := ⟨zi8 234 rfl rfl, wX12_isFilm, zi1 16 rfl rfl, ⟨by decide, by decide, by decide +kernel⟩, by decide⟩
theorem pX12_term_89 : zFP yX12_term 89 12 5 0 := ⟨_, _, _, _, zCX12, by decide, rfl, zi7 211 rfl rfl, Or.inl rfl⟩
theorem pX12_prints_89 : zFP yX12_prints 89 12 5 0 := ⟨_, _, _, _, zCX12, by decide, rfl, zi7 211 rfl rfl, Or.inl rfl⟩
theorem kX12_265 : zCL RX12 265 mX12_isPlace 1 := ⟨zi9 6 rfl rfl, wX12_isPlace, zi1 16 rfl rfl, ⟨by decide, by decide, by decide +kernel⟩, by decide⟩
theorem kX12_268 : zCL RX12 268 mX12_isDay 1 := ⟨zi9 21 rfl rfl, wX12_isDay, zi1 16 rfl rfl, ⟨by decide, by decide, by decide +kernel⟩, by decide⟩
theorem pX12_shown_89 : zFP yX12_shown 89 12 5 0 := ⟨_, _, _, _, zCX12, by decide, rfl, zi7 211 rfl rfl, Or.inl rfl⟩
theorem pX12_visitors_89 : zFP yX12_visitors 89 12 5 0 := ⟨_, _, _, _, zCX12, by decide, rfl, zi7 211 rfl rfl, Or.inl rfl⟩
theorem pX12_share_89 : zFP yX12_share 89 12 5 0 := ⟨_, _, _, _, zCX12, by decide, rfl, zi7 211 rfl rfl, Or.inl rfl⟩
theorem pX12_run_89 : zFP yX12_run 89 12 5 0 := ⟨_, _, _, _, zCX12, by decide, rfl, zi7 211 rfl rfl, Or.inl rfl⟩
theorem pX12_wouldHold_89 : zFP yX12_wouldHold 89 12 5 0 := ⟨_, _, _, _, zCX12, by decide, rfl, zi7 211 rfl rfl, Or.inl rfl⟩
theorem kX12_271 : zCL RX12 271 mX12_isHolding 1 := ⟨zi9 40 rfl rfl, wX12_isHolding, zi1 16 rfl rfl, ⟨by decide, by decide, by decide +kernel⟩, by decide⟩
theorem pX12_forecast_89 : zFP yX12_forecast 89 12 5 0 := ⟨_, _, _, _, zCX12, by decide, rfl, zi7 211 rfl rfl, Or.inl rfl⟩
theorem kX12_274 : zCL RX12 274 mX12_book 6 := ⟨zi9 56 rfl rfl, wX12_book, zi1 16 rfl rfl, ⟨by decide, by decide, by decide +kernel⟩, by decide⟩
theorem pX12_chart_89 : zFP yX12_chart 89 12 5 0 := ⟨_, _, _, _, zCX12, by decide, rfl, zi7 211 rfl rfl, Or.inl rfl⟩
theorem kX12_278 : zCL RX12 278 mX12_tookOf 1 := ⟨zi9 63 rfl rfl, wX12_tookOf, zi1 16 rfl rfl, ⟨by decide, by decide, by decide +kernel⟩, by decide⟩
theorem kX12_281 : zCL RX12 281 mJ6_compare_7cf53 2 := ⟨zi9 67 rfl rfl, wJ6_compare_7cf53, zi1 27 rfl rfl, ⟨by decide, by decide, by decide +kernel⟩, by decide⟩
theorem pX12_bestGain_89 : zFP yX12_bestGain 89 12 5 0 := ⟨_, _, _, _, zCX12, by decide, rfl, zi7 211 rfl rfl, Or.inl rfl⟩
theorem pX12_bestFilm_89 : zFP yX12_bestFilm 89 12 5 0 := ⟨_, _, _, _, zCX12, by decide, rfl, zi7 211 rfl rfl, Or.inl rfl⟩
theorem pX12_bestMove_89 : zFP yX12_bestMove 89 12 5 0 := ⟨_, _, _, _, zCX12, by decide, rfl, zi7 211 rfl rfl, Or.inl rfl⟩
theorem kX12_286 : zCL RX12 286 mX12_canMove 3 := ⟨zi9 102 rfl rfl, wX12_canMove, zi1 16 rfl rfl, ⟨by decide, by decide, by decide +kernel⟩, by decide⟩
theorem kX12_289 : zCL RX12 289 mX12_moreBy 3 := ⟨zi9 110 rfl rfl, wX12_moreBy, zi1 16 rfl rfl, ⟨by decide, by decide, by decide +kernel⟩, by decide⟩
theorem pX12_total_89 : zFP yX12_total 89 12 5 0 := ⟨_, _, _, _, zCX12, by decide, rfl, zi7 211 rfl rfl, Or.inl rfl⟩
theorem pX12_closed_89 : zFP yX12_closed 89 12 5 0 := ⟨_, _, _, _, zCX12, by decide, rfl, zi7 211 rfl rfl, Or.inl rfl⟩
theorem pX12_meanTakings_89 : zFP yX12_meanTakings 89 12 5 0 := ⟨_, _, _, _, zCX12, by decide, rfl, zi7 211 rfl rfl, Or.inl rfl⟩
theorem pX12_filled_89 : zFP yX12_filled 89 12 5 0 := ⟨_, _, _, _, zCX12, by decide, rfl, zi7 211 rfl rfl, Or.inl rfl⟩
theorem kX12_292 : zCL RX12 292 mX12_record 0 := ⟨zi9 138 rfl rfl, wX12_record, zi1 16 rfl rfl, ⟨by decide, by decide, by decide +kernel⟩, by decide⟩
theorem pX12_book__89 : zFP yX12_book_ 89 12 5 0 := ⟨_, _, _, _, zCX12, by decide, rfl, zi7 211 rfl rfl, Or.inl rfl⟩
theorem kX12_295 : zCL RX12 295 mX12_tryBooking 4 := ⟨zi9 134 rfl rfl, wX12_tryBooking, zi1 16 rfl rfl, ⟨by decide, by decide, by decide +kernel⟩, by decide⟩
theorem pX12_split_89 : zFP yX12_split 89 12 5 0 := ⟨_, _, _, _, zCX12, by decide, rfl, zi7 211 rfl rfl, Or.inl rfl⟩
theorem pX12_empty_89 : zFP yX12_empty 89 12 5 0 := ⟨_, _, _, _, zCX12, by decide, rfl, zi7 211 rfl rfl, Or.inl rfl⟩
theorem pX12_move_89 : zFP yX12_move 89 12 5 0 := ⟨_, _, _, _, zCX12, by decide, rfl, zi7 211 rfl rfl, Or.inl rfl⟩
theorem gX12_41 : zFL RX12 41 12 15 2 := ⟨_, _, _, _, zCX12, by decide, rfl, zi7 221 rfl rfl⟩
theorem pX12_close_89 : zFP yX12_close 89 12 5 0 := ⟨_, _, _, _, zCX12, by decide, rfl, zi7 211 rfl rfl, Or.inl rfl⟩
theorem kX12_299 : zCL RX12 299 mX12_keepWeek 0 := ⟨zi9 161 rfl rfl, wX12_keepWeek, zi1 16 rfl rfl, ⟨by decide, by decide, by decide +kernel⟩, by decide⟩
theorem kX12_302 : zCL RX12 302 mX12_keepFilm 1 := ⟨zi9 165 rfl rfl, wX12_keepFilm, zi1 16 rfl rfl, ⟨by decide, by decide, by decide +kernel⟩, by decide⟩
theorem kX12_305 : zCL RX12 305 mX12_holdScreens 0 := ⟨zi9 169 rfl rfl, wX12_holdScreens, zi1 16 rfl rfl, ⟨by decide, by decide, by decide +kernel⟩, by decide⟩
theorem pX12_program_89 : zFP yX12_program 89 12 5 0 := ⟨_, _, _, _, zCX12, by decide, rfl, zi7 211 rfl rfl, Or.inl rfl⟩
theorem pX12_setHoldover_89 : zFP yX12_setHoldover 89 12 5 0 := ⟨_, _, _, _, zCX12, by decide, rfl, zi7 211 rfl rfl, Or.inl rfl⟩
theorem kX12_308 : zCL RX12 308 mX12_change 2 := ⟨zi9 181 rfl rfl, wX12_change, zi1 16 rfl rfl, ⟨by decide, by decide, by decide +kernel⟩, by decide⟩
theorem pX12_setRent_89 : zFP yX12_setRent 89 12 5 0 := ⟨_, _, _, _, zCX12, by decide, rfl, zi7 211 rfl rfl, Or.inl rfl⟩
theorem pX12_setFee_89 : zFP yX12_setFee 89 12 5 0 := ⟨_, _, _, _, zCX12, by decide, rfl, zi7 211 rfl rfl, Or.inl rfl⟩
theorem gX12_44 : zFL RX12 44 12 16 2 := ⟨_, _, _, _, zCX12, by decide, rfl, zi7 222 rfl rfl⟩
theorem gX12_311 : zFL RX12 311 12 17 0 := ⟨_, _, _, _, zCX12, by decide, rfl, zi7 223 rfl rfl⟩
theorem pX12_write_311 : zFP yX12_write 311 12 17 0 := ⟨_, _, _, _, zCX12, by decide, rfl, zi7 223 rfl rfl, Or.inl rfl⟩
theorem pX12_format_89 : zFP yX12_format 89 12 5 0 := ⟨_, _, _, _, zCX12, by decide, rfl, zi7 211 rfl rfl, Or.inl rfl⟩
theorem pX12_format_311 : zFP yX12_format 311 12 17 0 := ⟨_, _, _, _, zCX12, by decide, rfl, zi7 223 rfl rfl, Or.inl rfl⟩
theorem kX12_314 : zCL RX12 314 mX12_write 1 := ⟨zi9 197 rfl rfl, wX12_write, zi1 16 rfl rfl, ⟨by decide, by decide, by decide +kernel⟩, by decide⟩
theorem kX12_321 : zCL RX12 321 mJ0_length_8abf5 0 := ⟨zi9 203 rfl rfl, wJ0_length_8abf5, zi1 4 rfl rfl, ⟨by decide, by decide, by decide +kernel⟩, by decide⟩
theorem kX12_324 : zCL RX12 324 mJ0_charAt_5068e 1 := ⟨zi9 204 rfl rfl, wJ0_charAt_5068e, zi1 4 rfl rfl, ⟨by decide, by decide, by decide +kernel⟩, by decide⟩
theorem pX12_formattedByte_89 : zFP yX12_formattedByte 89 12 5 0 := ⟨_, _, _, _, zCX12, by decide, rfl, zi7 211 rfl rfl, Or.inl rfl⟩
theorem gX12_328 : zFL RX12 328 12 4 0 := ⟨_, _, _, _, zCX12, by decide, rfl, zi7 210 rfl rfl⟩
theorem gX12_19 : zFL RX12 19 12 3 2 := ⟨_, _, _, _, zCX12, by decide, rfl, zi7 209 rfl rfl⟩
theorem kX12_331 : zCL RX12 331 mX12_copy 4 := ⟨zi9 142 rfl rfl, wX12_copy, zi1 16 rfl rfl, ⟨by decide, by decide, by decide +kernel⟩, by decide⟩
theorem pX12_record_328 : zFP yX12_record 328 12 4 0 := ⟨_, _, _, _, zCX12, by decide, rfl, zi7 210 rfl rfl, Or.inl rfl⟩
theorem pX12_undoCount_89 : zFP yX12_undoCount 89 12 5 0 := ⟨_, _, _, _, zCX12, by decide, rfl, zi7 211 rfl rfl, Or.inl rfl⟩
theorem pX12_undo_89 : zFP yX12_undo 89 12 5 0 := ⟨_, _, _, _, zCX12, by decide, rfl, zi7 211 rfl rfl, Or.inl rfl⟩
theorem pX12_undo_328 : zFP yX12_undo 328 12 4 0 := ⟨_, _, _, _, zCX12, by decide, rfl, zi7 210 rfl rfl, Or.inl rfl⟩
theorem pX12_saveSnapshot_89 : zFP yX12_saveSnapshot 89 12 5 0 := ⟨_, _, _, _, zCX12, by decide, rfl, zi7 211 rfl rfl, Or.inl rfl⟩
theorem gX12_16 : zFL RX12 16 12 2 2 := ⟨_, _, _, _, zCX12, by decide, rfl, zi7 208 rfl rfl⟩
theorem pX12_saveSnapshot_335 : zFP yX12_saveSnapshot 335 12 6 3 := ⟨_, _, _, _, zCX12, by decide, rfl, zi7 212 rfl rfl, Or.inl rfl⟩
theorem pX12_restoreSnapshot_89 : zFP yX12_restoreSnapshot 89 12 5 0 := ⟨_, _, _, _, zCX12, by decide, rfl, zi7 211 rfl rfl, Or.inl rfl⟩
theorem gX12_335 : zFL RX12 335 12 6 3 := ⟨_, _, _, _, zCX12, by decide, rfl, zi7 212 rfl rfl⟩
theorem pX12_restoreSnapshot_328 : zFP yX12_restoreSnapshot 328 12 4 0 := ⟨_, _, _, _, zCX12, by decide, rfl, zi7 210 rfl rfl, Or.inl rfl⟩
theorem pX12_feed_89 : zFP yX12_feed 89 12 5 0 := ⟨_, _, _, _, zCX12, by decide, rfl, zi7 211 rfl rfl, Or.inl rfl⟩
theorem gX12_339 : zFL RX12 339 12 19 0 := ⟨_, _, _, _, zCX12, by decide, rfl, zi7 225 rfl rfl⟩
theorem gX12_47 : zFL RX12 47 12 18 2 := ⟨_, _, _, _, zCX12, by decide, rfl, zi7 224 rfl rfl⟩
theorem pX12_feed_339 : zFP yX12_feed 339 12 19 0 := ⟨_, _, _, _, zCX12, by decide, rfl, zi7 225 rfl rfl, Or.inl rfl⟩
theorem pX12_errorPosition_89 : zFP yX12_errorPosition 89 12 5 0 := ⟨_, _, _, _, zCX12, by decide, rfl, zi7 211 rfl rfl, Or.inl rfl⟩
theorem gX12_50 : zFL RX12 50 12 26 0 := ⟨_, _, _, _, zCX12, by decide, rfl, zi7 232 rfl rfl⟩
theorem gX12_342 : zFL RX12 342 12 20 0 := ⟨_, _, _, _, zCX12, by decide, rfl, zi7 226 rfl rfl⟩
theorem kX12_345 : zCL RX12 345 mX12_byteAt 1 := ⟨zi10 5 rfl rfl, wX12_byteAt, zi1 16 rfl rfl, ⟨by decide, by decide, by decide +kernel⟩, by decide⟩
theorem gX12_348 : zFL RX12 348 12 21 0 := ⟨_, _, _, _, zCX12, by decide, rfl, zi7 227 rfl rfl⟩
theorem pX12_scan_348 : zFP yX12_scan 348 12 21 0 := ⟨_, _, _, _, zCX12, by decide, rfl, zi7 227 rfl rfl, Or.inl rfl⟩
theorem pX12_scan_351 : zFP yX12_scan 351 12 22 0 := ⟨_, _, _, _, zCX12, by decide, rfl, zi7 228 rfl rfl, Or.inl rfl⟩
theorem pX12_scan_354 : zFP yX12_scan 354 12 23 0 := ⟨_, _, _, _, zCX12, by decide, rfl, zi7 229 rfl rfl, Or.inl rfl⟩
theorem kX12_357 : zCL RX12 357 mX12_isLetter 1 := ⟨zi10 9 rfl rfl, wX12_isLetter, zi1 16 rfl rfl, ⟨by decide, by decide, by decide +kernel⟩, by decide⟩
theorem kX12_360 : zCL RX12 360 mX12_isDigit 1 := ⟨zi10 13 rfl rfl, wX12_isDigit, zi1 16 rfl rfl, ⟨by decide, by decide, by decide +kernel⟩, by decide⟩
theorem pX12_startText_342 : zFP yX12_startText 342 12 20 0 := ⟨_, _, _, _, zCX12, by decide, rfl, zi7 226 rfl rfl, Or.inl rfl⟩
theorem pX12_startText_348 : zFP yX12_startText 348 12 21 0 := ⟨_, _, _, _, zCX12, by decide, rfl, zi7 227 rfl rfl, Or.inl rfl⟩
theorem pX12_startText_363 : zFP yX12_startText 363 12 24 0 := ⟨_, _, _, _, zCX12, by decide, rfl, zi7 230 rfl rfl, Or.inl rfl⟩
theorem pX12_startText_366 : zFP yX12_startText 366 12 27 0 := ⟨_, _, _, _, zCX12, by decide, rfl, zi7 233 rfl rfl, Or.inl rfl⟩
theorem kX12_369 : zCL RX12 369 mX12_scan 0 := ⟨zi10 1 rfl rfl, wX12_scan, zi1 16 rfl rfl, ⟨by decide, by decide, by decide +kernel⟩, by decide⟩
theorem pX12_finish_339 : zFP yX12_finish 339 12 19 0 := ⟨_, _, _, _, zCX12, by decide, rfl, zi7 225 rfl rfl, Or.inl rfl⟩
theorem gX12_363 : zFL RX12 363 12 24 0 := ⟨_, _, _, _, zCX12, by decide, rfl, zi7 230 rfl rfl⟩
theorem gX12_372 : zFL RX12 372 12 25 0 := ⟨_, _, _, _, zCX12, by decide, rfl, zi7 231 rfl rfl⟩
theorem pX12_finish_50 : zFP yX12_finish 50 12 26 0 := ⟨_, _, _, _, zCX12, by decide, rfl, zi7 232 rfl rfl, Or.inl rfl⟩
theorem pX12_flaw_363 : zFP yX12_flaw 363 12 24 0 := ⟨_, _, _, _, zCX12, by decide, rfl, zi7 230 rfl rfl, Or.inl rfl⟩
theorem gX12_351 : zFL RX12 351 12 22 0 := ⟨_, _, _, _, zCX12, by decide, rfl, zi7 228 rfl rfl⟩
theorem pX12_flaw_372 : zFP yX12_flaw 372 12 25 0 := ⟨_, _, _, _, zCX12, by decide, rfl, zi7 231 rfl rfl, Or.inl rfl⟩
theorem kX12_375 : zCL RX12 375 mX12_flaw 1 := ⟨zi10 33 rfl rfl, wX12_flaw, zi1 16 rfl rfl, ⟨by decide, by decide, by decide +kernel⟩, by decide⟩
theorem gX12_354 : zFL RX12 354 12 23 0 := ⟨_, _, _, _, zCX12, by decide, rfl, zi7 229 rfl rfl⟩
theorem kX12_378 : zCL RX12 378 mX12_isWord 1 := ⟨zi10 21 rfl rfl, wX12_isWord, zi1 16 rfl rfl, ⟨by decide, by decide, by decide +kernel⟩, by decide⟩
theorem kX12_382 : zCL RX12 382 mX12_check 2 := ⟨zi10 29 rfl rfl, wX12_check, zi1 16 rfl rfl, ⟨by decide, by decide, by decide +kernel⟩, by decide⟩
theorem kX12_386 : zCL RX12 386 mX12_advance 0 := ⟨zi10 37 rfl rfl, wX12_advance, zi1 16 rfl rfl, ⟨by decide, by decide, by decide +kernel⟩, by decide⟩
theorem kX12_389 : zCL RX12 389 mX12_isSymbol 1 := ⟨zi10 91 rfl rfl, wX12_isSymbol, zi1 16 rfl rfl, ⟨by decide, by decide, by decide +kernel⟩, by decide⟩
theorem oX12_392 : Cond.constantLong RX12 392 (Int64.ofInt (2000000000)) ∈ lw_all := by
  rw [show Int64.ofInt (2000000000) = (2000000000 : Int64) by decide]
  exact zi10 49 rfl rfl
theorem oX12_394 : Cond.constantLong RX12 394 (Int64.ofInt (10)) ∈ lw_all := by
  rw [show Int64.ofInt (10) = (10 : Int64) by decide]
  exact zi10 50 rfl rfl
theorem oX12_396 : Cond.constantLong RX12 396 (Int64.ofInt (48)) ∈ lw_all := by
  rw [show Int64.ofInt (48) = (48 : Int64) by decide]
  exact zi10 51 rfl rfl
theorem kX12_398 : zCL RX12 398 mJ9_min_f86c9 2 := ⟨zi10 52 rfl rfl, wJ9_min_f86c9, zi1 21 rfl rfl, ⟨by decide, by decide, by decide +kernel⟩, by decide⟩
theorem kX12_401 : zCL RX12 401 mX12_value 0 := ⟨zi10 45 rfl rfl, wX12_value, zi1 16 rfl rfl, ⟨by decide, by decide, by decide +kernel⟩, by decide⟩
theorem gX12_13 : zFL RX12 13 12 1 2 := ⟨_, _, _, _, zCX12, by decide, rfl, zi7 207 rfl rfl⟩
theorem kX12_404 : zCL RX12 404 mX12_readNumber 2 := ⟨zi10 41 rfl rfl, wX12_readNumber, zi1 16 rfl rfl, ⟨by decide, by decide, by decide +kernel⟩, by decide⟩
theorem kX12_407 : zCL RX12 407 mX12_screensRead 1 := ⟨zi10 59 rfl rfl, wX12_screensRead, zi1 16 rfl rfl, ⟨by decide, by decide, by decide +kernel⟩, by decide⟩
theorem kX12_410 : zCL RX12 410 mX12_readTerms 1 := ⟨zi10 68 rfl rfl, wX12_readTerms, zi1 16 rfl rfl, ⟨by decide, by decide, by decide +kernel⟩, by decide⟩
theorem kX12_415 : zCL RX12 415 mX12_accept 1 := ⟨zi10 73 rfl rfl, wX12_accept, zi1 16 rfl rfl, ⟨by decide, by decide, by decide +kernel⟩, by decide⟩
theorem kX12_418 : zCL RX12 418 mX12_readHouse 0 := ⟨zi10 25 rfl rfl, wX12_readHouse, zi1 16 rfl rfl, ⟨by decide, by decide, by decide +kernel⟩, by decide⟩
theorem kX12_421 : zCL RX12 421 mX12_readScreen 0 := ⟨zi10 55 rfl rfl, wX12_readScreen, zi1 16 rfl rfl, ⟨by decide, by decide, by decide +kernel⟩, by decide⟩
theorem kX12_426 : zCL RX12 426 mX12_readFilm 0 := ⟨zi10 64 rfl rfl, wX12_readFilm, zi1 16 rfl rfl, ⟨by decide, by decide, by decide +kernel⟩, by decide⟩
theorem kX12_431 : zCL RX12 431 mX12_readPrints 0 := ⟨zi10 77 rfl rfl, wX12_readPrints, zi1 16 rfl rfl, ⟨by decide, by decide, by decide +kernel⟩, by decide⟩
theorem kX12_436 : zCL RX12 436 mX12_expectWord 1 := ⟨zi10 83 rfl rfl, wX12_expectWord, zi1 16 rfl rfl, ⟨by decide, by decide, by decide +kernel⟩, by decide⟩
theorem kX12_440 : zCL RX12 440 mX12_expect 1 := ⟨zi10 87 rfl rfl, wX12_expect, zi1 16 rfl rfl, ⟨by decide, by decide, by decide +kernel⟩, by decide⟩
theorem pX12_load_89 : zFP yX12_load 89 12 5 0 := ⟨_, _, _, _, zCX12, by decide, rfl, zi7 211 rfl rfl, Or.inl rfl⟩
theorem kX12_443 : zCL RX12 443 mX12_startText 1 := ⟨zi9 237 rfl rfl, wX12_startText, zi1 16 rfl rfl, ⟨by decide, by decide, by decide +kernel⟩, by decide⟩
theorem kX12_446 : zCL RX12 446 mX12_readClause 0 := ⟨zi10 17 rfl rfl, wX12_readClause, zi1 16 rfl rfl, ⟨by decide, by decide, by decide +kernel⟩, by decide⟩
theorem kX12_449 : zCL RX12 449 mX12_finish 0 := ⟨zi10 95 rfl rfl, wX12_finish, zi1 16 rfl rfl, ⟨by decide, by decide, by decide +kernel⟩, by decide⟩
theorem pX12_load_328 : zFP yX12_load 328 12 4 0 := ⟨_, _, _, _, zCX12, by decide, rfl, zi7 210 rfl rfl, Or.inl rfl⟩
theorem pX12_load_335 : zFP yX12_load 335 12 6 3 := ⟨_, _, _, _, zCX12, by decide, rfl, zi7 212 rfl rfl, Or.inl rfl⟩
theorem gX12_78 : zFL RX12 78 12 29 2 := ⟨_, _, _, _, zCX12, by decide, rfl, zi7 235 rfl rfl⟩
theorem gX12_452 : zFL RX12 452 12 31 0 := ⟨_, _, _, _, zCX12, by decide, rfl, zi7 237 rfl rfl⟩
theorem pX12_emit_452 : zFP yX12_emit 452 12 31 0 := ⟨_, _, _, _, zCX12, by decide, rfl, zi7 237 rfl rfl, Or.inl rfl⟩
theorem gX12_366 : zFL RX12 366 12 27 0 := ⟨_, _, _, _, zCX12, by decide, rfl, zi7 233 rfl rfl⟩
theorem pX12_enter_366 : zFP yX12_enter 366 12 27 0 := ⟨_, _, _, _, zCX12, by decide, rfl, zi7 233 rfl rfl, Or.inl rfl⟩
theorem oX12_455 : Cond.constant RX12 455 (Int32.ofInt (99999)) ∈ lw_all := by
  rw [show Int32.ofInt (99999) = (99999 : Int32) by decide]
  exact zi10 130 rfl rfl
theorem kX12_456 : zCL RX12 456 mX12_emit 1 := ⟨zi10 122 rfl rfl, wX12_emit, zi1 16 rfl rfl, ⟨by decide, by decide, by decide +kernel⟩, by decide⟩
theorem gX12_74 : zFL RX12 74 12 28 2 := ⟨_, _, _, _, zCX12, by decide, rfl, zi7 234 rfl rfl⟩
theorem kX12_461 : zCL RX12 461 mX12_enter 0 := ⟨zi10 118 rfl rfl, wX12_enter, zi1 16 rfl rfl, ⟨by decide, by decide, by decide +kernel⟩, by decide⟩
theorem kX12_464 : zCL RX12 464 mX12_compileFactor 0 := ⟨zi10 113 rfl rfl, wX12_compileFactor, zi1 16 rfl rfl, ⟨by decide, by decide, by decide +kernel⟩, by decide⟩
theorem pX12_compileFactor_366 : zFP yX12_compileFactor 366 12 27 0 := ⟨_, _, _, _, zCX12, by decide, rfl, zi7 233 rfl rfl, Or.inl rfl⟩
theorem kX12_467 : zCL RX12 467 mX12_compileTest 0 := ⟨zi10 105 rfl rfl, wX12_compileTest, zi1 16 rfl rfl, ⟨by decide, by decide, by decide +kernel⟩, by decide⟩
theorem kX12_470 : zCL RX12 470 mX12_compileValue 0 := ⟨zi10 126 rfl rfl, wX12_compileValue, zi1 16 rfl rfl, ⟨by decide, by decide, by decide +kernel⟩, by decide⟩
theorem kX12_475 : zCL RX12 475 mX12_compileConjunction 0 := ⟨zi10 109 rfl rfl, wX12_compileConjunction, zi1 16 rfl rfl, ⟨by decide, by decide, by decide +kernel⟩, by decide⟩
theorem gX12_81 : zFL RX12 81 12 30 2 := ⟨_, _, _, _, zCX12, by decide, rfl, zi7 236 rfl rfl⟩
theorem kX12_480 : zCL RX12 480 mX12_property 2 := ⟨zi10 138 rfl rfl, wX12_property, zi1 16 rfl rfl, ⟨by decide, by decide, by decide +kernel⟩, by decide⟩
theorem kX12_483 : zCL RX12 483 mX12_operate 3 := ⟨zi10 142 rfl rfl, wX12_operate, zi1 16 rfl rfl, ⟨by decide, by decide, by decide +kernel⟩, by decide⟩
theorem pX12_query_89 : zFP yX12_query 89 12 5 0 := ⟨_, _, _, _, zCX12, by decide, rfl, zi7 211 rfl rfl, Or.inl rfl⟩
theorem pX12_query_452 : zFP yX12_query 452 12 31 0 := ⟨_, _, _, _, zCX12, by decide, rfl, zi7 237 rfl rfl, Or.inl rfl⟩
theorem oX12_491 : Cond.constant RX12 491 (Int32.ofInt (-1000000000)) ∈ lw_all := by
  rw [show Int32.ofInt (-1000000000) = (-1000000000 : Int32) by decide]
  exact zi10 133 rfl rfl
theorem kX12_492 : zCL RX12 492 mX12_holdsFor 1 := ⟨zi10 134 rfl rfl, wX12_holdsFor, zi1 16 rfl rfl, ⟨by decide, by decide, by decide +kernel⟩, by decide⟩
end ZW

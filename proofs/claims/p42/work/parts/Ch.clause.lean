/-! the clauses that are said, read -/
section ZT6
variable {t : Int → Int} {L q : Nat} {D : Int → Int}
theorem sfx_eq {a b : List Nat} (h : sfx t L q a) (e : a = b) : sfx t L q b := e ▸ h
theorem sg_k {r : List Nat} (h : sfx t L q (59 :: r)) : tk t L q = 3 := by
  have b := sfx_hd h
  have eb : tbg t L q = q := sp_tbg (pre := []) (fun x hx => nomatch hx) (by decide) h
  unfold tk
  rw [eb, if_pos b.1, b.2, if_neg (by decide), if_neg (by decide)]
/-- read, clause by clause -/
def rdC (t : Int → Int) (L : Nat) (x y : ldS) : Prop := ∃ k, ldI t L x k = y ∧ ∀ m, m < k → tKd t L (ldI t L x m).1 ≠ 0
theorem rdC_rf {x : ldS} : rdC t L x x := ⟨0, rfl, fun m h => absurd h (by omega)⟩
theorem ldI_add {x : ldS} {a : Nat} : ∀ b, ldI t L x (a + b) = ldI t L (ldI t L x a) b := fun b => by
  induction b with
  | zero => rfl
  | succ b ih =>
    show ldC t L (ldI t L x (a + b)) = ldC t L (ldI t L (ldI t L x a) b)
    rw [ih]
theorem rdC.tr {x y z : ldS} (h : rdC t L x y) (k : rdC t L y z) : rdC t L x z := by
  obtain ⟨a, ea, ha⟩ := h
  obtain ⟨b, eb, hb⟩ := k
  refine ⟨a + b, by rw [ldI_add, ea, eb], fun m hm => ?_⟩
  by_cases c : m < a
  · exact ha m c
  · rw [show m = a + (m - a) by omega, ldI_add, ea]
    exact hb (m - a) (by omega)
theorem rdC_1 {x y : ldS} (e : ldC t L x = y) (h : tKd t L x.1 ≠ 0) : rdC t L x y := ⟨1, e, fun m hm => by
  rw [show m = 0 by omega]
  exact h⟩
theorem rdC_ld {x y : ldS} {k : Nat} (h : rdC t L x y) (e : tKd t L y.1 = 0) (hk : ldT t L x k) : ldI t L x k = y := by
  obtain ⟨a, ea, ha⟩ := h
  have : k = a := by
    rcases Nat.lt_trichotomy k a with c | c | c
    · exact absurd hk.1 (ha k c)
    · exact c
    · exact absurd (by rw [ea]; exact e) (hk.2 a c)
  rw [this, ea]
theorem ldC_of {s s' : tS} {D' : Int → Int} {r : List Nat} (e : ldB t L (s, D) = (s', D')) {q' : Nat} (e2 : s' = (q', 0)) (h : sfx t L q' (59 :: r)) : ldC t L (s, D) = ((q' + 1, 0), D') := by
  unfold ldC
  rw [e, e2]
  show (tSgS t L 59 (q', 0), D') = _
  rw [(sg_59 h).1]
theorem wd_ne0 {w : List Nat} {c0 : Nat} {r : List Nat} (hw : ∀ x ∈ c0 :: w, 97 ≤ x ∧ x ≤ 122) (h : sfx t L q ((c0 :: w) ++ 32 :: r)) : tKd t L (q, 0) ≠ 0 := by
  rw [tKd_0 rfl]
  show tk t L q ≠ 0
  rw [(wd_tok (pre := []) (fun x hx => nomatch hx) hw h).1]
  decide
def clH (p q : Nat) : List Nat := sN 30 ++ dg p ++ sN 31 ++ dg q ++ [59]
def clSc (a b c e : Nat) : List Nat := sN 32 ++ sN 31 ++ dg a ++ sN 31 ++ dg b ++ sN 31 ++ dg c ++ sN 31 ++ dg e ++ [59]
def tT (u : Nat → Nat) : Nat → List Nat
  | 0 => []
  | n + 1 => tT u n ++ sN 31 ++ dg (u n)
def clF (a b c : Nat) (u : Nat → Nat) (n : Nat) : List Nat := sN 33 ++ sN 31 ++ dg a ++ sN 31 ++ dg b ++ sN 31 ++ dg c ++ tT u n ++ [59]
def clP0 (f n : Nat) : List Nat := sN 34 ++ dg f ++ sN 35 ++ sN 31 ++ dg n ++ [59]
def clP (f k n : Nat) : List Nat := sN 34 ++ dg f ++ sN 31 ++ dg k ++ sN 31 ++ dg n ++ [59]
def clE (v : Nat) : List Nat := sN 36 ++ dg v ++ [59]
theorem cl_house {p p2 : Nat} {r : List Nat} (h4 : D 0 < 4) (p0 : 1 ≤ p) (p1 : p ≤ 99) (q0 : 1 ≤ p2) (q1 : p2 ≤ 100) (h : sfx t L q (clH p p2 ++ r)) : ∃ q', sfx t L q' r ∧ rdC t L ((q, 0), D) ((q', 0), mSet (mSet (mSet D (6 + 2 * D 0 + 0) (p : Int)) (6 + 2 * D 0 + 1) (p2 : Int)) 0 (D 0 + 1)) := by
  have h1 : sfx t L q ([] ++ ((104 :: [111, 117, 115, 101]) ++ 32 :: (dg p ++ 32 :: (dg p2 ++ 59 :: r)))) := sfx_eq h (by
    unfold clH
    rw [show sN 30 = [104, 111, 117, 115, 101, 32] from rfl, show sN 31 = [32] from rfl]
    simp only [List.append_assoc, List.cons_append, List.nil_append])
  have hw : ∀ x ∈ (104 :: [111, 117, 115, 101] : List Nat), 97 ≤ x ∧ x ≤ 122 := by decide
  have hp : ∀ x ∈ ([] : List Nat), x = 32 := fun x hx => nomatch hx
  have w1 : tWd t L (zsbi 1) (q, 0) := (wd_iff hp hw h1).mpr (by decide +kernel)
  have a1 := wd_adv hp hw h1
  have s1 := (wd_tok hp hw h1).2.2.2
  obtain ⟨n1, v1, s2⟩ := nm (lo := 1) (hi := 99) (by omega) (Or.inl rfl) s1 (by omega) (by omega)
  obtain ⟨n2, v2, s3⟩ := nm (lo := 1) (hi := 100) (by omega) (Or.inr rfl) s2 (by omega) (by omega)
  refine ⟨_, (sg_59 s3).2, rdC_1 (ldC_of ?_ rfl s3) (wd_ne0 hw h1)⟩
  unfold ldB
  rw [if_pos w1]
  unfold ldHouse
  rw [if_pos h4]
  show (tNumS t L 1 100 (tNumS t L 1 99 (tAdv t L (q, 0))), mSet (mSet (mSet D (6 + 2 * D 0 + 0) (tNumV t L 1 99 (tAdv t L (q, 0)))) (6 + 2 * D 0 + 1) (tNumV t L 1 100 (tNumS t L 1 99 (tAdv t L (q, 0))))) 0 (D 0 + 1)) = _
  rw [a1, n1, v1, n2, v2]
theorem hs_tok {v c : Nat} {r : List Nat} (hv : v ≤ 9999) (hc : c = 32 ∨ c = 59) (h : sfx t L q (32 :: (dg v ++ c :: r))) (h1 : (v : Int) < D 0) (h2 : mCn D v (nS D) < 4) : tHs t L D (q, 0) = (q + 1 + (dg v).length, 0) ∧ tv t L q = (v : Int) ∧ sfx t L (q + 1 + (dg v).length) (c :: r) := by
  obtain ⟨a, b, e, f⟩ := nm_tok hv hc h
  have k : tKd t L (q, 0) = 2 := (tKd_0 rfl).trans a
  have b2 : tv t L ((q, (0 : Int)) : tS).1 = (v : Int) := b
  refine ⟨?_, b, f⟩
  unfold tHs
  rw [if_neg (fun z => z k), if_neg (by rw [b2]; omega), b2, if_pos h2, tAdv_0 rfl]
  show (te t L q, (0 : Int)) = _
  rw [e]
theorem cl_screen {a b c e : Nat} {r : List Nat} (h4 : D 1 < 10) (h0 : (a : Int) < D 0) (a9 : a ≤ 9) (hc : mCn D a (nS D) < 4) (b0 : 1 ≤ b) (b1 : b ≤ 500) (c0 : 1 ≤ c) (c1 : c ≤ 6) (e1 : e ≤ 9999) (h : sfx t L q (clSc a b c e ++ r)) : ∃ q', sfx t L q' r ∧ rdC t L ((q, 0), D) ((q', 0), mSet (mBook (mSet (mSet (mSet (mSet D (14 + 8 * D 1 + 0) (a : Int)) (14 + 8 * D 1 + 1) (b : Int)) (14 + 8 * D 1 + 2) (c : Int)) (14 + 8 * D 1 + 3) (e : Int)) (D 1) (-1) (-1) 0 0) 1 (D 1 + 1)) := by
  have h1 : sfx t L q ([] ++ ((115 :: [99, 114, 101, 101, 110]) ++ 32 :: (dg a ++ 32 :: (dg b ++ 32 :: (dg c ++ 32 :: (dg e ++ 59 :: r)))))) := sfx_eq h (by
    unfold clSc
    rw [show sN 32 = [115, 99, 114, 101, 101, 110] from rfl, show sN 31 = [32] from rfl]
    simp only [List.append_assoc, List.cons_append, List.nil_append])
  have hw : ∀ x ∈ (115 :: [99, 114, 101, 101, 110] : List Nat), 97 ≤ x ∧ x ≤ 122 := by decide
  have hp : ∀ x ∈ ([] : List Nat), x = 32 := fun x hx => nomatch hx
  have w1 : ¬ tWd t L (zsbi 1) (q, 0) := fun z => absurd ((wd_iff hp hw h1).mp z) (by decide +kernel)
  have w2 : tWd t L (zsbi 2) (q, 0) := (wd_iff hp hw h1).mpr (by decide +kernel)
  have a1 := wd_adv hp hw h1
  have s1 := (wd_tok hp hw h1).2.2.2
  obtain ⟨n1, v1, s2⟩ := hs_tok (by omega) (Or.inl rfl) s1 h0 hc
  obtain ⟨n2, v2, s3⟩ := nm (lo := 1) (hi := 500) (by omega) (Or.inl rfl) s2 (by omega) (by omega)
  obtain ⟨n3, v3, s4⟩ := nm (lo := 1) (hi := 6) (by omega) (Or.inl rfl) s3 (by omega) (by omega)
  obtain ⟨n4, v4, s5⟩ := nm (lo := 0) (hi := 9999) (by omega) (Or.inr rfl) s4 (by omega) (by omega)
  refine ⟨_, (sg_59 s5).2, rdC_1 (ldC_of ?_ rfl s5) (wd_ne0 hw h1)⟩
  unfold ldB
  rw [if_neg w1, if_pos w2]
  unfold ldScreen
  rw [if_pos h4]
  show (tNumS t L 0 9999 (tNumS t L 1 6 (tNumS t L 1 500 (tHs t L D (tAdv t L (q, 0))))), mSet (mBook (mSet (mSet (mSet (mSet D (14 + 8 * D 1 + 0) (tv t L (tAdv t L (q, 0)).1)) (14 + 8 * D 1 + 1) (tNumV t L 1 500 (tHs t L D (tAdv t L (q, 0))))) (14 + 8 * D 1 + 2) (tNumV t L 1 6 (tNumS t L 1 500 (tHs t L D (tAdv t L (q, 0)))))) (14 + 8 * D 1 + 3) (tNumV t L 0 9999 (tNumS t L 1 6 (tNumS t L 1 500 (tHs t L D (tAdv t L (q, 0))))))) (D 1) (-1) (-1) 0 0) 1 (D 1 + 1)) = _
  rw [a1, n1, n2, v2, n3, v3, n4, v4]
  show _ = ((_, 0), mSet (mBook (mSet (mSet (mSet (mSet D (14 + 8 * D 1 + 0) (a : Int)) _ _) _ _) _ _) _ _ _ _ _) _ _)
  rw [← v1]
/-- the terms -/
theorem tt_tok {u : Nat → Nat} {n : Nat} (hu : ∀ i, i < n → u i ≤ 90) : ∀ {c : Nat} {r : List Nat}, (c = 32 ∨ c = 59) → sfx t L q (tT u n ++ c :: r) → ∃ q', tIt t L (q, 0) n = (q', 0) ∧ sfx t L q' (c :: r) ∧ ∀ i, i < n → tNumV t L 0 90 (tIt t L (q, 0) i) = (u i : Int) ∧ tKd t L (tIt t L (q, 0) i) = 2 := by
  induction n with
  | zero => intro c r hc h; exact ⟨q, rfl, h, fun i hi => absurd hi (by omega)⟩
  | succ n ih =>
    intro c r hc h
    have h1 : sfx t L q (tT u n ++ 32 :: (dg (u n) ++ c :: r)) := sfx_eq h (by
      show (tT u n ++ sN 31 ++ dg (u n)) ++ c :: r = _
      rw [show sN 31 = [32] from rfl]
      simp only [List.append_assoc, List.cons_append, List.nil_append])
    obtain ⟨q1, e1, s1, k1⟩ := ih (fun i hi => hu i (by omega)) (Or.inl rfl) h1
    have hn := hu n (by omega)
    obtain ⟨n2, v2, s2⟩ := nm (lo := 0) (hi := 90) (by omega) hc s1 (by omega) (by omega)
    refine ⟨_, ?_, s2, fun i hi => ?_⟩
    · show tNumS t L 0 90 (tIt t L (q, 0) n) = _
      rw [e1, n2]
    · by_cases z : i < n
      · exact k1 i z
      · rw [show i = n by omega, e1]
        exact ⟨v2, (tKd_0 rfl).trans (nm_tok (by omega) hc s1).1⟩
theorem mTm_u {s : tS} {b : Int} {u : Nat → Nat} : ∀ {n : Nat}, (∀ i, i < n → tNumV t L 0 90 (tIt t L s i) = (u i : Int)) → ∀ i : Nat, i < n → mTm t L D s b n (b + (i : Int)) = (u i : Int) := fun hu i hi => by
  rw [mTm_at hi]
  exact hu i hi
theorem cl_film {a b c n : Nat} {u : Nat → Nat} {r : List Nat} (h4 : D 2 < 6) (a1 : a ≤ 9999) (b1 : b ≤ 100) (c1 : c ≤ 9999) (n0 : 1 ≤ n) (n4 : n ≤ 4) (hu : ∀ i, i < n → u i ≤ 90) (h : sfx t L q (clF a b c u n ++ r)) : ∃ q' s, sfx t L q' r ∧ (∀ i, i < n → tNumV t L 0 90 (tIt t L s i) = (u i : Int)) ∧ rdC t L ((q, 0), D) ((q', 0), mSet (mSet (mSet (mTm t L (mSet (mSet (mSet D (94 + 10 * D 2 + 0) (a : Int)) (94 + 10 * D 2 + 1) (b : Int)) (94 + 10 * D 2 + 2) (c : Int)) s (94 + 10 * D 2 + 4) n) (94 + 10 * D 2 + 3) (n : Int)) (94 + 10 * D 2 + 8) (-1)) 2 (D 2 + 1)) := by
  have h1 : sfx t L q ([] ++ ((102 :: [105, 108, 109]) ++ 32 :: (dg a ++ 32 :: (dg b ++ 32 :: (dg c ++ (tT u n ++ 59 :: r)))))) := sfx_eq h (by
    unfold clF
    rw [show sN 33 = [102, 105, 108, 109] from rfl, show sN 31 = [32] from rfl]
    simp only [List.append_assoc, List.cons_append, List.nil_append])
  have hw : ∀ x ∈ (102 :: [105, 108, 109] : List Nat), 97 ≤ x ∧ x ≤ 122 := by decide
  have hp : ∀ x ∈ ([] : List Nat), x = 32 := fun x hx => nomatch hx
  have w1 : ¬ tWd t L (zsbi 1) (q, 0) := fun z => absurd ((wd_iff hp hw h1).mp z) (by decide +kernel)
  have w2 : ¬ tWd t L (zsbi 2) (q, 0) := fun z => absurd ((wd_iff hp hw h1).mp z) (by decide +kernel)
  have w3 : tWd t L (zsbi 3) (q, 0) := (wd_iff hp hw h1).mpr (by decide +kernel)
  have ad := wd_adv hp hw h1
  have s1 := (wd_tok hp hw h1).2.2.2
  obtain ⟨n1, v1, s2⟩ := nm (lo := 0) (hi := 9999) (by omega) (Or.inl rfl) s1 (by omega) (by omega)
  obtain ⟨n2, v2, s3⟩ := nm (lo := 0) (hi := 100) (by omega) (Or.inl rfl) s2 (by omega) (by omega)
  obtain ⟨m, em⟩ : ∃ m, n = m + 1 := ⟨n - 1, by omega⟩
  have tl : ∃ r2, tT u n ++ 59 :: r = 32 :: r2 := by
    rw [em]
    clear em hu h h1 w1 w2 w3 ad s1 n1 v1 s2 n2 v2 s3
    have g : ∀ m : Nat, ∃ r3, tT u (m + 1) = 32 :: r3 := fun m => by
      induction m with
      | zero => exact ⟨_, rfl⟩
      | succ m ih =>
        obtain ⟨r3, e3⟩ := ih
        refine ⟨r3 ++ sN 31 ++ dg (u (m + 1)), ?_⟩
        show tT u (m + 1) ++ sN 31 ++ dg (u (m + 1)) = _
        rw [e3]
        rfl
    obtain ⟨r3, e3⟩ := g m
    exact ⟨r3 ++ 59 :: r, by rw [e3]; rfl⟩
  obtain ⟨r2, er⟩ := tl
  have s3' := sfx_eq s3 (by rw [er])
  obtain ⟨n3, v3, s4⟩ := nm (lo := 0) (hi := 9999) (by omega) (Or.inl rfl) s3' (by omega) (by omega)
  rw [← er] at s4
  obtain ⟨q5, e5, s5, k5⟩ := tt_tok hu (Or.inr rfl) s4
  have ec := tmC_is n0 n4 (fun i _ hi => (k5 i hi).2) (Or.inr (by rw [e5, tKd_0 rfl]; show tk t L q5 ≠ 2; rw [sg_k s5]; decide))
  refine ⟨_, _, (sg_59 s5).2, fun i hi => (k5 i hi).1, rdC_1 (ldC_of ?_ rfl s5) (wd_ne0 hw h1)⟩
  unfold ldB
  rw [if_neg w1, if_neg w2, if_pos w3]
  unfold ldFilm
  rw [if_pos h4]
  show (tIt t L (tNumS t L 0 9999 (tNumS t L 0 100 (tNumS t L 0 9999 (tAdv t L (q, 0))))) (tmC t L (tNumS t L 0 9999 (tNumS t L 0 100 (tNumS t L 0 9999 (tAdv t L (q, 0)))))), mSet (mSet (mSet (mTm t L (mSet (mSet (mSet D (94 + 10 * D 2 + 0) (tNumV t L 0 9999 (tAdv t L (q, 0)))) (94 + 10 * D 2 + 1) (tNumV t L 0 100 (tNumS t L 0 9999 (tAdv t L (q, 0))))) (94 + 10 * D 2 + 2) (tNumV t L 0 9999 (tNumS t L 0 100 (tNumS t L 0 9999 (tAdv t L (q, 0)))))) (tNumS t L 0 9999 (tNumS t L 0 100 (tNumS t L 0 9999 (tAdv t L (q, 0))))) (94 + 10 * D 2 + 4) (tmC t L (tNumS t L 0 9999 (tNumS t L 0 100 (tNumS t L 0 9999 (tAdv t L (q, 0))))))) (94 + 10 * D 2 + 3) (tmC t L (tNumS t L 0 9999 (tNumS t L 0 100 (tNumS t L 0 9999 (tAdv t L (q, 0))))) : Int)) (94 + 10 * D 2 + 8) (-1)) 2 (D 2 + 1)) = _
  rw [ad, n1, v1, n2, v2, n3, v3, ec, e5]
theorem ldPr_y {s1 s2 : tS} (e : tNumS t L 0 (D 2 - 1) s1 = s2) (h : tWd t L (zsbi 5) s2) : ldPr t L s1 D = (tNumS t L 0 9 (tAdv t L s2), mSet D (154 + 5 * tNumV t L 0 (D 2 - 1) s1 + -1 + 1) (tNumV t L 0 9 (tAdv t L s2))) := by
  subst e
  unfold ldPr
  simp only [if_pos h]
theorem ldPr_n {s1 s2 : tS} (e : tNumS t L 0 (D 2 - 1) s1 = s2) (h : ¬ tWd t L (zsbi 5) s2) : ldPr t L s1 D = (tNumS t L 0 9 (tNumS t L 0 (D 0 - 1) s2), mSet D (154 + 5 * tNumV t L 0 (D 2 - 1) s1 + tNumV t L 0 (D 0 - 1) s2 + 1) (tNumV t L 0 9 (tNumS t L 0 (D 0 - 1) s2))) := by
  subst e
  unfold ldPr
  simp only [if_neg h]
theorem cl_depot {f n : Nat} {r : List Nat} (h2 : (f : Int) < D 2) (f6 : f ≤ 5) (n9 : n ≤ 9) (h : sfx t L q (clP0 f n ++ r)) : ∃ q', sfx t L q' r ∧ rdC t L ((q, 0), D) ((q', 0), mSet D (154 + 5 * (f : Int) + -1 + 1) (n : Int)) := by
  have h1 : sfx t L q ([] ++ ((112 :: [114, 105, 110, 116, 115]) ++ 32 :: (dg f ++ 32 :: ([100, 101, 112, 111, 116] ++ 32 :: (dg n ++ 59 :: r))))) := sfx_eq h (by
    unfold clP0
    rw [show sN 34 = [112, 114, 105, 110, 116, 115, 32] from rfl, show sN 31 = [32] from rfl, show sN 35 = [32, 100, 101, 112, 111, 116] from rfl]
    simp only [List.append_assoc, List.cons_append, List.nil_append])
  have hw : ∀ x ∈ (112 :: [114, 105, 110, 116, 115] : List Nat), 97 ≤ x ∧ x ≤ 122 := by decide
  have hp : ∀ x ∈ ([] : List Nat), x = 32 := fun x hx => nomatch hx
  have w1 : ¬ tWd t L (zsbi 1) (q, 0) := fun z => absurd ((wd_iff hp hw h1).mp z) (by decide +kernel)
  have w2 : ¬ tWd t L (zsbi 2) (q, 0) := fun z => absurd ((wd_iff hp hw h1).mp z) (by decide +kernel)
  have w3 : ¬ tWd t L (zsbi 3) (q, 0) := fun z => absurd ((wd_iff hp hw h1).mp z) (by decide +kernel)
  have w4 : tWd t L (zsbi 4) (q, 0) := (wd_iff hp hw h1).mpr (by decide +kernel)
  have ad := wd_adv hp hw h1
  have s1 := (wd_tok hp hw h1).2.2.2
  obtain ⟨n1, v1, s2⟩ := nm (lo := 0) (hi := D 2 - 1) (by omega) (Or.inl rfl) s1 (by omega) (by omega)
  have hw5 : ∀ x ∈ (100 :: [101, 112, 111, 116] : List Nat), 97 ≤ x ∧ x ≤ 122 := by decide
  have hp5 : ∀ x ∈ ([32] : List Nat), x = 32 := by decide
  have h5 : sfx t L _ ([32] ++ ((100 :: [101, 112, 111, 116]) ++ 32 :: (dg n ++ 59 :: r))) := s2
  have w5 := (wd_iff (w' := zsbi 5) hp5 hw5 h5).mpr (by decide +kernel)
  have ad5 := wd_adv hp5 hw5 h5
  have s3 := (wd_tok hp5 hw5 h5).2.2.2
  obtain ⟨n3, v3, s4⟩ := nm (lo := 0) (hi := 9) (by omega) (Or.inr rfl) s3 (by omega) (by omega)
  refine ⟨_, (sg_59 s4).2, rdC_1 (ldC_of ?_ rfl s4) (wd_ne0 hw h1)⟩
  unfold ldB
  rw [if_neg w1, if_neg w2, if_neg w3, if_pos w4]
  show ldPr t L (tAdv t L (q, 0)) D = _
  rw [ad, ldPr_y n1 w5, v1, ad5, n3, v3]
theorem cl_prints {f k n : Nat} {r : List Nat} (h2 : (f : Int) < D 2) (f6 : f ≤ 5) (h0 : (k : Int) < D 0) (k9 : k ≤ 9) (n9 : n ≤ 9) (h : sfx t L q (clP f k n ++ r)) : ∃ q', sfx t L q' r ∧ rdC t L ((q, 0), D) ((q', 0), mSet D (154 + 5 * (f : Int) + (k : Int) + 1) (n : Int)) := by
  have h1 : sfx t L q ([] ++ ((112 :: [114, 105, 110, 116, 115]) ++ 32 :: (dg f ++ 32 :: (dg k ++ 32 :: (dg n ++ 59 :: r))))) := sfx_eq h (by
    unfold clP
    rw [show sN 34 = [112, 114, 105, 110, 116, 115, 32] from rfl, show sN 31 = [32] from rfl]
    simp only [List.append_assoc, List.cons_append, List.nil_append])
  have hw : ∀ x ∈ (112 :: [114, 105, 110, 116, 115] : List Nat), 97 ≤ x ∧ x ≤ 122 := by decide
  have hp : ∀ x ∈ ([] : List Nat), x = 32 := fun x hx => nomatch hx
  have w1 : ¬ tWd t L (zsbi 1) (q, 0) := fun z => absurd ((wd_iff hp hw h1).mp z) (by decide +kernel)
  have w2 : ¬ tWd t L (zsbi 2) (q, 0) := fun z => absurd ((wd_iff hp hw h1).mp z) (by decide +kernel)
  have w3 : ¬ tWd t L (zsbi 3) (q, 0) := fun z => absurd ((wd_iff hp hw h1).mp z) (by decide +kernel)
  have w4 : tWd t L (zsbi 4) (q, 0) := (wd_iff hp hw h1).mpr (by decide +kernel)
  have ad := wd_adv hp hw h1
  have s1 := (wd_tok hp hw h1).2.2.2
  obtain ⟨n1, v1, s2⟩ := nm (lo := 0) (hi := D 2 - 1) (by omega) (Or.inl rfl) s1 (by omega) (by omega)
  have k2 := (nm_tok (by omega) (Or.inl rfl) s2).1
  have w5 : ¬ tWd t L (zsbi 5) (q + ([] : List Nat).length + ([114, 105, 110, 116, 115].length + 1) + 1 + (dg f).length, 0) := fun z => by
    have := z.1
    rw [tKd_0 rfl] at this
    have k3 := this.symm.trans k2
    exact absurd k3 (by decide)
  obtain ⟨n2, v2, s3⟩ := nm (lo := 0) (hi := D 0 - 1) (by omega) (Or.inl rfl) s2 (by omega) (by omega)
  obtain ⟨n3, v3, s4⟩ := nm (lo := 0) (hi := 9) (by omega) (Or.inr rfl) s3 (by omega) (by omega)
  refine ⟨_, (sg_59 s4).2, rdC_1 (ldC_of ?_ rfl s4) (wd_ne0 hw h1)⟩
  unfold ldB
  rw [if_neg w1, if_neg w2, if_neg w3, if_pos w4]
  show ldPr t L (tAdv t L (q, 0)) D = _
  rw [ad, ldPr_n n1 w5, v1, v2, n2, n3, v3]
theorem cl_fee {v : Nat} {r : List Nat} (v9 : v ≤ 999) (h : sfx t L q (clE v ++ r)) : ∃ q', sfx t L q' r ∧ rdC t L ((q, 0), D) ((q', 0), mSet D 4 (v : Int)) := by
  have h1 : sfx t L q ([] ++ ((102 :: [101, 101]) ++ 32 :: (dg v ++ 59 :: r))) := sfx_eq h (by
    unfold clE
    rw [show sN 36 = [102, 101, 101, 32] from rfl]
    simp only [List.append_assoc, List.cons_append, List.nil_append])
  have hw : ∀ x ∈ (102 :: [101, 101] : List Nat), 97 ≤ x ∧ x ≤ 122 := by decide
  have hp : ∀ x ∈ ([] : List Nat), x = 32 := fun x hx => nomatch hx
  have w1 : ¬ tWd t L (zsbi 1) (q, 0) := fun z => absurd ((wd_iff hp hw h1).mp z) (by decide +kernel)
  have w2 : ¬ tWd t L (zsbi 2) (q, 0) := fun z => absurd ((wd_iff hp hw h1).mp z) (by decide +kernel)
  have w3 : ¬ tWd t L (zsbi 3) (q, 0) := fun z => absurd ((wd_iff hp hw h1).mp z) (by decide +kernel)
  have w4 : ¬ tWd t L (zsbi 4) (q, 0) := fun z => absurd ((wd_iff hp hw h1).mp z) (by decide +kernel)
  have w6 : tWd t L (zsbi 6) (q, 0) := (wd_iff hp hw h1).mpr (by decide +kernel)
  have ad := wd_adv hp hw h1
  have s1 := (wd_tok hp hw h1).2.2.2
  obtain ⟨n1, v1, s2⟩ := nm (lo := 0) (hi := 999) (by omega) (Or.inr rfl) s1 (by omega) (by omega)
  refine ⟨_, (sg_59 s2).2, rdC_1 (ldC_of ?_ rfl s2) (wd_ne0 hw h1)⟩
  unfold ldB
  rw [if_neg w1, if_neg w2, if_neg w3, if_neg w4]
  show (tNumS t L 0 999 (tWdS t L (zsbi 6) (q, 0)), mSet D 4 (tNumV t L 0 999 (tWdS t L (zsbi 6) (q, 0)))) = _
  unfold tWdS
  rw [if_pos w6, ad, n1, v1]
end ZT6

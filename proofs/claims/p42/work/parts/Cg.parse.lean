/-! the text that was said, read by the class's grammar: tokens -/
section ZT5
variable {t : Int → Int} {L q : Nat} {P : Int → Bool}
/-- from the place q on the text is r -/
def sfx (t : Int → Int) (L q : Nat) (r : List Nat) : Prop := q + r.length = L ∧ ∀ k : Nat, k < r.length → t ((q + k : Nat) : Int) = ((r.getD k 0 : Nat) : Int)
theorem sfx_hd {c : Nat} {r : List Nat} (h : sfx t L q (c :: r)) : q < L ∧ t (q : Int) = (c : Int) := by
  have a := h.1
  have b := h.2 0 (by show 0 < r.length + 1; omega)
  have e : (c :: r).length = r.length + 1 := rfl
  exact ⟨by omega, b⟩
theorem sfx_tl {c : Nat} {r : List Nat} (h : sfx t L q (c :: r)) : sfx t L (q + 1) r := by
  have e : (c :: r).length = r.length + 1 := rfl
  refine ⟨by have := h.1; omega, fun k hk => ?_⟩
  have b := h.2 (k + 1) (by omega)
  rw [show q + 1 + k = q + (k + 1) by omega, b]
  rfl
theorem sfx_app {a r : List Nat} : ∀ {q : Nat}, sfx t L q (a ++ r) → sfx t L (q + a.length) r := by
  induction a with
  | nil => intro q h; exact h
  | cons c a ih =>
    intro q h
    have := ih (sfx_tl (show sfx t L q (c :: (a ++ r)) from h))
    rw [show q + (c :: a).length = q + 1 + a.length by show q + (a.length + 1) = _; omega]
    exact this
/-- what follows ends a run -/
def stp (P : Int → Bool) (r : List Nat) : Prop := r = [] ∨ ∃ c r', r = c :: r' ∧ P (c : Int) = false
theorem zrun_x {a r : List Nat} (ha : ∀ x ∈ a, P (x : Int) = true) (hr : stp P r) : ∀ {q : Nat}, sfx t L q (a ++ r) → zrun P t L q = q + a.length := by
  induction a with
  | nil =>
    intro q h
    rcases hr with e | ⟨c, r', e, k⟩
    · subst e
      have := h.1
      exact zrun_e (fun z => by have e0 : ([] ++ [] : List Nat).length = 0 := rfl; omega)
    · subst e
      have := sfx_hd (show sfx t L q (c :: r') from h)
      exact zrun_e (fun z => by rw [this.2, k] at z; exact absurd z.2 (by decide))
  | cons c a ih =>
    intro q h
    have h1 : sfx t L q (c :: (a ++ r)) := h
    have b := sfx_hd h1
    rw [zrun_s b.1 (by rw [b.2]; exact ha c List.mem_cons_self), ih (fun x hx => ha x (List.mem_cons_of_mem _ hx)) (sfx_tl h1)]
    show q + 1 + a.length = q + (a.length + 1)
    omega
theorem stp_of {c : Nat} {r : List Nat} (h : P (c : Int) = false) : stp P (c :: r) := Or.inr ⟨c, r, rfl, h⟩
theorem sp_tbg {pre : List Nat} {c : Nat} {r : List Nat} (hp : ∀ x ∈ pre, x = 32) (hc : c ≠ 32 ∧ c ≠ 10) (h : sfx t L q (pre ++ c :: r)) : tbg t L q = q + pre.length := by
  refine zrun_x (fun x hx => ?_) (stp_of ?_) h
  · rw [hp x hx]; rfl
  · refine Bool.eq_false_iff.mpr fun z => ?_
    have := tW_i.mp z
    omega
/-- a semicolon -/
theorem sg_59 {r : List Nat} (h : sfx t L q (59 :: r)) : tSgS t L 59 (q, 0) = (q + 1, 0) ∧ sfx t L (q + 1) r := by
  have b := sfx_hd h
  have eb : tbg t L q = q := sp_tbg (pre := []) (fun x hx => nomatch hx) (by decide) h
  have ek : tk t L q = 3 := by
    unfold tk
    rw [eb, if_pos b.1, b.2, if_neg (by decide), if_neg (by decide)]
  have ev : tv t L q = 59 := by
    unfold tv
    rw [eb, if_pos b.1, b.2, if_neg (by decide), if_neg (by decide)]
    rfl
  have ee : te t L q = q + 1 := by
    unfold te
    rw [eb, if_pos b.1, b.2, if_neg (by decide), if_neg (by decide)]
  refine ⟨?_, sfx_tl h⟩
  unfold tSgS
  rw [if_pos ⟨(tKd_0 rfl).trans ek, ev⟩, tAdv_0 rfl]
  show (te t L q, (0 : Int)) = _
  rw [ee]
theorem nd_m {v : Nat} (hv : v ≤ 9999) : (nd v = 1 ∧ v < 10) ∨ (nd v = 2 ∧ v < 100) ∨ (nd v = 3 ∧ v < 1000) ∨ (nd v = 4 ∧ v < 10000) := by
  unfold nd
  split
  · omega
  · split
    · omega
    · split <;> omega
theorem dgL_d {v : Nat} : ∀ k, ∀ x ∈ dgL v k, 48 ≤ x ∧ x ≤ 57 := fun k => by
  induction k with
  | zero => intro x h; exact nomatch h
  | succ k ih =>
    intro x h
    rcases List.mem_cons.mp h with e | e
    · rw [e]; omega
    · exact ih x e
theorem tvN_s {b n : Nat} (h : tvN t b n < 1000000) : tvN t b (n + 1) = tvN t b n * 10 + t ((b + n : Nat) : Int) - 48 := if_pos h
theorem dg_val {v : Nat} {r : List Nat} (hv : v ≤ 9999) (h : sfx t L q (dg v ++ r)) : tvN t q (dg v).length = (v : Int) := by
  have hn := dg_n v
  have g : ∀ k : Nat, k < (dg v).length → t ((q + k : Nat) : Int) = (((dg v).getD k 0 : Nat) : Int) := fun k hk => by
    rw [h.2 k (by rw [List.length_append]; omega), List.getD_eq_getElem?_getD, List.getD_eq_getElem?_getD, List.getElem?_append_left hk]
  rw [hn] at g ⊢
  have z0 : tvN t q 0 = 0 := rfl
  rcases nd_m hv with ⟨c, b⟩ | ⟨c, b⟩ | ⟨c, b⟩ | ⟨c, b⟩
  · rw [c] at g ⊢
    have e : dg v = dgL v 1 := by unfold dg; rw [c]
    have g0 := g 0 (by omega)
    rw [e] at g0
    rw [show (dgL v 1).getD 0 0 = 48 + v % 10 from by show 48 + v / 1 % 10 = _; rw [Nat.div_one]] at g0
    have t1 : tvN t q 1 = tvN t q 0 * 10 + t ((q + 0 : Nat) : Int) - 48 := tvN_s (by omega)
    omega
  · rw [c] at g ⊢
    have e : dg v = dgL v 2 := by unfold dg; rw [c]
    have g0 := g 0 (by omega)
    have g1 := g 1 (by omega)
    rw [e] at g0 g1
    rw [show (dgL v 2).getD 0 0 = 48 + v / 10 % 10 from rfl] at g0
    rw [show (dgL v 2).getD 1 0 = 48 + v % 10 from by show 48 + v / 1 % 10 = _; rw [Nat.div_one]] at g1
    have t1 : tvN t q 1 = tvN t q 0 * 10 + t ((q + 0 : Nat) : Int) - 48 := tvN_s (by omega)
    have t2 : tvN t q 2 = tvN t q 1 * 10 + t ((q + 1 : Nat) : Int) - 48 := tvN_s (by omega)
    omega
  · rw [c] at g ⊢
    have e : dg v = dgL v 3 := by unfold dg; rw [c]
    have g0 := g 0 (by omega)
    have g1 := g 1 (by omega)
    have g2 := g 2 (by omega)
    rw [e] at g0 g1 g2
    rw [show (dgL v 3).getD 0 0 = 48 + v / 100 % 10 from rfl] at g0
    rw [show (dgL v 3).getD 1 0 = 48 + v / 10 % 10 from rfl] at g1
    rw [show (dgL v 3).getD 2 0 = 48 + v % 10 from by show 48 + v / 1 % 10 = _; rw [Nat.div_one]] at g2
    have t1 : tvN t q 1 = tvN t q 0 * 10 + t ((q + 0 : Nat) : Int) - 48 := tvN_s (by omega)
    have t2 : tvN t q 2 = tvN t q 1 * 10 + t ((q + 1 : Nat) : Int) - 48 := tvN_s (by omega)
    have t3 : tvN t q 3 = tvN t q 2 * 10 + t ((q + 2 : Nat) : Int) - 48 := tvN_s (by omega)
    omega
  · rw [c] at g ⊢
    have e : dg v = dgL v 4 := by unfold dg; rw [c]
    have g0 := g 0 (by omega)
    have g1 := g 1 (by omega)
    have g2 := g 2 (by omega)
    have g3 := g 3 (by omega)
    rw [e] at g0 g1 g2 g3
    rw [show (dgL v 4).getD 0 0 = 48 + v / 1000 % 10 from rfl] at g0
    rw [show (dgL v 4).getD 1 0 = 48 + v / 100 % 10 from rfl] at g1
    rw [show (dgL v 4).getD 2 0 = 48 + v / 10 % 10 from rfl] at g2
    rw [show (dgL v 4).getD 3 0 = 48 + v % 10 from by show 48 + v / 1 % 10 = _; rw [Nat.div_one]] at g3
    have t1 : tvN t q 1 = tvN t q 0 * 10 + t ((q + 0 : Nat) : Int) - 48 := tvN_s (by omega)
    have t2 : tvN t q 2 = tvN t q 1 * 10 + t ((q + 1 : Nat) : Int) - 48 := tvN_s (by omega)
    have t3 : tvN t q 3 = tvN t q 2 * 10 + t ((q + 2 : Nat) : Int) - 48 := tvN_s (by omega)
    have t4 : tvN t q 4 = tvN t q 3 * 10 + t ((q + 3 : Nat) : Int) - 48 := tvN_s (by omega)
    omega
theorem dg_cons (v : Nat) : ∃ c r, dg v = c :: r ∧ 48 ≤ c ∧ c ≤ 57 := by
  have b := nd_b v
  obtain ⟨k, hk⟩ : ∃ k, nd v = k + 1 := ⟨nd v - 1, by omega⟩
  unfold dg
  rw [hk]
  exact ⟨_, _, rfl, by omega, by omega⟩
/-- a number behind a space -/
theorem nm_tok {v : Nat} {c : Nat} {r : List Nat} (hv : v ≤ 9999) (hc : c = 32 ∨ c = 59) (h : sfx t L q (32 :: (dg v ++ c :: r))) : tk t L q = 2 ∧ tv t L q = (v : Int) ∧ te t L q = q + 1 + (dg v).length ∧ sfx t L (q + 1 + (dg v).length) (c :: r) := by
  obtain ⟨d0, dr, ed, d1, d2⟩ := dg_cons v
  have h1 := sfx_tl h
  have eb : tbg t L q = q + 1 := by
    rw [ed] at h
    exact sp_tbg (pre := [32]) (c := d0) (fun x hx => List.mem_singleton.mp hx) (by omega) h
  have b : q + 1 < L ∧ t ((q + 1 : Nat) : Int) = (d0 : Int) := by
    rw [ed] at h1
    exact sfx_hd h1
  have na : tA (t ((q + 1 : Nat) : Int)) = false := by
    rw [b.2]
    refine Bool.eq_false_iff.mpr fun z => ?_
    have := tA_i.mp z
    omega
  have yd : tD (t ((q + 1 : Nat) : Int)) = true := by
    rw [b.2]
    exact tD_i.mpr (by omega)
  have er : zrun tD t L (q + 1) = q + 1 + (dg v).length := zrun_x (fun x hx => tD_i.mpr (by have := dgL_d _ x hx; omega)) (stp_of (Bool.eq_false_iff.mpr fun z => by have := tD_i.mp z; omega)) h1
  have ee : te t L q = q + 1 + (dg v).length := by
    unfold te
    rw [eb, if_pos b.1, na, if_neg (by decide), yd, if_pos rfl, er]
  refine ⟨?_, ?_, ee, sfx_app h1⟩
  · unfold tk
    rw [eb, if_pos b.1, na, if_neg (by decide), yd, if_pos rfl]
  · unfold tv
    rw [eb, if_pos b.1, na, if_neg (by decide), yd, if_pos rfl, ee, show q + 1 + (dg v).length - (q + 1) = (dg v).length by omega]
    exact dg_val hv h1
theorem nm {v : Nat} {c : Nat} {r : List Nat} {lo hi : Int} (hv : v ≤ 9999) (hc : c = 32 ∨ c = 59) (h : sfx t L q (32 :: (dg v ++ c :: r))) (h0 : lo ≤ (v : Int)) (h1 : (v : Int) ≤ hi) : tNumS t L lo hi (q, 0) = (q + 1 + (dg v).length, 0) ∧ tNumV t L lo hi (q, 0) = (v : Int) ∧ sfx t L (q + 1 + (dg v).length) (c :: r) := by
  obtain ⟨a, b, e, f⟩ := nm_tok hv hc h
  have k : tKd t L (q, 0) = 2 := (tKd_0 rfl).trans a
  have b2 : tv t L ((q, (0 : Int)) : tS).1 = (v : Int) := b
  refine ⟨?_, ?_, f⟩
  · unfold tNumS
    rw [if_neg (fun z => z k), if_neg (by rw [b2]; omega), tAdv_0 rfl]
    show (te t L q, (0 : Int)) = _
    rw [e]
  · unfold tNumV
    rw [if_neg (fun z => by rw [b2] at z; exact z.elim (fun z => z k) (fun z => by omega))]
    exact b
/-- a word -/
theorem wd_tok {w : List Nat} {c0 : Nat} {pre r : List Nat} (hp : ∀ x ∈ pre, x = 32) (hw : ∀ x ∈ c0 :: w, 97 ≤ x ∧ x ≤ 122) (h : sfx t L q (pre ++ ((c0 :: w) ++ 32 :: r))) : tk t L q = 1 ∧ tbg t L q = q + pre.length ∧ te t L q = q + pre.length + (w.length + 1) ∧ sfx t L (q + pre.length + (w.length + 1)) (32 :: r) := by
  have c0b := hw c0 List.mem_cons_self
  have h1 := sfx_app h
  have eb : tbg t L q = q + pre.length := sp_tbg (c := c0) hp (by omega) h
  have b := sfx_hd (show sfx t L (q + pre.length) (c0 :: (w ++ 32 :: r)) from h1)
  have ya : tA (t ((q + pre.length : Nat) : Int)) = true := by
    rw [b.2]
    exact tA_i.mpr (by omega)
  have er : zrun tA t L (q + pre.length) = q + pre.length + (w.length + 1) := zrun_x (a := c0 :: w) (fun x hx => tA_i.mpr (by have := hw x hx; omega)) (stp_of (by decide)) h1
  refine ⟨?_, eb, ?_, sfx_app (a := c0 :: w) h1⟩
  · unfold tk
    rw [eb, if_pos b.1, ya, if_pos rfl]
  · unfold te
    rw [eb, if_pos b.1, ya, if_pos rfl, er]
theorem wd_iff {w : List Nat} {c0 : Nat} {pre r : List Nat} {w' : List Int} (hp : ∀ x ∈ pre, x = 32) (hw : ∀ x ∈ c0 :: w, 97 ≤ x ∧ x ≤ 122) (h : sfx t L q (pre ++ ((c0 :: w) ++ 32 :: r))) : tWd t L w' (q, 0) ↔ w' = (c0 :: w).map (fun x : Nat => (x : Int)) := by
  obtain ⟨a, b, e, f⟩ := wd_tok hp hw h
  have h1 := sfx_app h
  have g : ∀ k : Nat, k < w.length + 1 → t ((q + pre.length + k : Nat) : Int) = (((c0 :: w).getD k 0 : Nat) : Int) := fun k hk => by
    rw [h1.2 k (by rw [List.length_append]; show k < w.length + 1 + _; omega), List.getD_eq_getElem?_getD, List.getD_eq_getElem?_getD, List.getElem?_append_left (by show k < w.length + 1; omega)]
  have gm : ∀ k : Nat, k < w.length + 1 → ((c0 :: w).map (fun x : Nat => (x : Int))).getD k 0 = (((c0 :: w).getD k 0 : Nat) : Int) := fun k hk => by
    rw [List.getD_eq_getElem?_getD, List.getD_eq_getElem?_getD, List.getElem?_map, List.getElem?_eq_getElem (show k < (c0 :: w).length by show k < w.length + 1; omega)]
    rfl
  have lm : ((c0 :: w).map (fun x : Nat => (x : Int))).length = w.length + 1 := by rw [List.length_map]; rfl
  constructor
  · intro z
    have z2 : te t L q - tbg t L q = w'.length := z.2.1
    rw [e, b] at z2
    have z3 : ∀ k : Nat, k < w'.length → t ((tbg t L q + k : Nat) : Int) = w'.getD k 0 := z.2.2
    refine List.ext_getElem (by rw [lm]; omega) fun k hk1 hk2 => ?_
    have p := z3 k hk1
    rw [b, g k (by omega), ← gm k (by omega), List.getD_eq_getElem?_getD, List.getD_eq_getElem?_getD, List.getElem?_eq_getElem hk2, List.getElem?_eq_getElem hk1] at p
    exact p.symm
  · intro z
    subst z
    refine ⟨(tKd_0 rfl).trans a, ?_, fun k hk => ?_⟩
    · show te t L q - tbg t L q = _
      rw [e, b, lm]
      omega
    · show t ((tbg t L q + k : Nat) : Int) = _
      rw [lm] at hk
      rw [b, g k hk, gm k hk]
theorem wd_adv {w : List Nat} {c0 : Nat} {pre r : List Nat} (hp : ∀ x ∈ pre, x = 32) (hw : ∀ x ∈ c0 :: w, 97 ≤ x ∧ x ≤ 122) (h : sfx t L q (pre ++ ((c0 :: w) ++ 32 :: r))) : tAdv t L (q, 0) = (q + pre.length + (w.length + 1), 0) := by
  rw [tAdv_0 rfl]
  show (te t L q, (0 : Int)) = _
  rw [(wd_tok hp hw h).2.2.1]
end ZT5

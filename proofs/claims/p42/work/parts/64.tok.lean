/-! tokens of a text, as numbers -/
section ZTK
def zrunN (P : Int → Bool) (t : Int → Int) (L : Nat) : Nat → Nat → Nat
  | 0, p => p
  | n + 1, p => if p < L ∧ P (t p) = true then zrunN P t L n (p + 1) else p
def zrun (P : Int → Bool) (t : Int → Int) (L p : Nat) : Nat := zrunN P t L (L - p) p
def tW (c : Int) : Bool := decide (c = 32 ∨ c = 10)
def tA (c : Int) : Bool := decide (97 ≤ c ∧ c ≤ 122)
def tD (c : Int) : Bool := decide (48 ≤ c ∧ c ≤ 57)
theorem tW_i {c : Int} : tW c = true ↔ c = 32 ∨ c = 10 := decide_eq_true_iff
theorem tA_i {c : Int} : tA c = true ↔ 97 ≤ c ∧ c ≤ 122 := decide_eq_true_iff
theorem tD_i {c : Int} : tD c = true ↔ 48 ≤ c ∧ c ≤ 57 := decide_eq_true_iff
variable {P : Int → Bool} {t : Int → Int} {L p q : Nat}
theorem zrun_s (h : p < L) (k : P (t p) = true) : zrun P t L p = zrun P t L (p + 1) := by
  unfold zrun
  rw [show L - p = (L - (p + 1)) + 1 by omega]
  exact if_pos ⟨h, k⟩
theorem zrun_e (h : ¬ (p < L ∧ P (t p) = true)) : zrun P t L p = p := by
  unfold zrun
  cases L - p with
  | zero => rfl
  | succ n => exact if_neg h
theorem zrun_b (h : p ≤ L) : p ≤ zrun P t L p ∧ zrun P t L p ≤ L := by
  have key : ∀ n p, p + n = L → p ≤ zrun P t L p ∧ zrun P t L p ≤ L := fun n => by
    induction n with
    | zero => intro p e; rw [zrun_e (fun z => by omega)]; omega
    | succ n ih =>
      intro p e
      by_cases c : p < L ∧ P (t p) = true
      · rw [zrun_s c.1 c.2]
        have := ih (p + 1) (by omega)
        omega
      · rw [zrun_e c]; omega
  exact key (L - p) p (by omega)
theorem zrun_in (h : p ≤ L) : ∀ i, p ≤ i → i < zrun P t L p → P (t i) = true := by
  have key : ∀ n p, p + n = L → ∀ i, p ≤ i → i < zrun P t L p → P (t i) = true := fun n => by
    induction n with
    | zero => intro p e i a b; rw [zrun_e (fun z => by omega)] at b; omega
    | succ n ih =>
      intro p e i a b
      by_cases c : p < L ∧ P (t p) = true
      · by_cases c2 : i = p
        · rw [c2]; exact c.2
        · rw [zrun_s c.1 c.2] at b
          exact ih (p + 1) (by omega) i (by omega) b
      · rw [zrun_e c] at b; omega
  exact key (L - p) p (by omega)
def tbg (t : Int → Int) (L q : Nat) : Nat := zrun tW t L q
def tk (t : Int → Int) (L q : Nat) : Int := if tbg t L q < L then (if tA (t (tbg t L q)) = true then 1 else if tD (t (tbg t L q)) = true then 2 else 3) else 0
def te (t : Int → Int) (L q : Nat) : Nat := if tbg t L q < L then (if tA (t (tbg t L q)) = true then zrun tA t L (tbg t L q) else if tD (t (tbg t L q)) = true then zrun tD t L (tbg t L q) else tbg t L q + 1) else tbg t L q
/-- the number read, cut at a million as the class does -/
def tvN (t : Int → Int) (b : Nat) : Nat → Int
  | 0 => 0
  | n + 1 => if tvN t b n < 1000000 then tvN t b n * 10 + t ((b + n : Nat) : Int) - 48 else 1000000
def tv (t : Int → Int) (L q : Nat) : Int := if tbg t L q < L then (if tA (t (tbg t L q)) = true then 0 else if tD (t (tbg t L q)) = true then tvN t (tbg t L q) (te t L q - tbg t L q) else t (tbg t L q)) else 0
theorem tvN_b {b : Nat} : ∀ {n : Nat}, (∀ i, b ≤ i → i < b + n → 48 ≤ t i ∧ t i ≤ 57) → 0 ≤ tvN t b n ∧ tvN t b n ≤ 10000000 := fun {n} => by
  induction n with
  | zero => intro _; show (0 : Int) ≤ 0 ∧ (0 : Int) ≤ 10000000; omega
  | succ n ih =>
    intro h
    have a := ih fun i h1 h2 => h i h1 (by omega)
    have c := h (b + n) (by omega) (by omega)
    show 0 ≤ (if tvN t b n < 1000000 then tvN t b n * 10 + t ((b + n : Nat) : Int) - 48 else 1000000) ∧ (if tvN t b n < 1000000 then tvN t b n * 10 + t ((b + n : Nat) : Int) - 48 else 1000000) ≤ 10000000
    split <;> omega
theorem tbg_b (h : q ≤ L) : q ≤ tbg t L q ∧ tbg t L q ≤ L := zrun_b h
theorem te_b (h : q ≤ L) : tbg t L q ≤ te t L q ∧ te t L q ≤ L ∧ (tk t L q ≠ 0 → tbg t L q < te t L q ∧ tbg t L q < L) := by
  have b := tbg_b (t := t) h
  unfold te tk
  by_cases c : tbg t L q < L
  · rw [if_pos c, if_pos c]
    by_cases c1 : tA (t (tbg t L q)) = true
    · rw [if_pos c1, zrun_s c c1]
      have := zrun_b (P := tA) (t := t) (L := L) (p := tbg t L q + 1) (by omega)
      omega
    · rw [if_neg c1]
      by_cases c2 : tD (t (tbg t L q)) = true
      · rw [if_pos c2, zrun_s c c2]
        have := zrun_b (P := tD) (t := t) (L := L) (p := tbg t L q + 1) (by omega)
        omega
      · rw [if_neg c2]; omega
  · rw [if_neg c, if_neg c]
    exact ⟨Nat.le_refl _, b.2, fun z => absurd rfl z⟩
theorem tk_b (t : Int → Int) (L q : Nat) : 0 ≤ tk t L q ∧ tk t L q ≤ 3 := by
  unfold tk
  split
  · split
    · omega
    · split <;> omega
  · omega
theorem tk_2 (h : q ≤ L) (k : tk t L q = 2) : tbg t L q < L ∧ te t L q = zrun tD t L (tbg t L q) ∧ tv t L q = tvN t (tbg t L q) (te t L q - tbg t L q) ∧ ∀ i, tbg t L q ≤ i → i < te t L q → 48 ≤ t i ∧ t i ≤ 57 := by
  have b := tbg_b (t := t) h
  have hc : tbg t L q < L := Decidable.byContradiction fun c => by unfold tk at k; rw [if_neg c] at k; exact absurd k (by decide)
  have h1 : ¬ tA (t (tbg t L q)) = true := fun c => by unfold tk at k; rw [if_pos hc, if_pos c] at k; exact absurd k (by decide)
  have h2 : tD (t (tbg t L q)) = true := Decidable.byContradiction fun c => by unfold tk at k; rw [if_pos hc, if_neg h1, if_neg c] at k; exact absurd k (by decide)
  have he : te t L q = zrun tD t L (tbg t L q) := by unfold te; rw [if_pos hc, if_neg h1, if_pos h2]
  refine ⟨hc, he, by unfold tv; rw [if_pos hc, if_neg h1, if_pos h2], fun i a c => ?_⟩
  rw [he] at c
  exact tD_i.mp (zrun_in (by omega) i a c)
theorem tv_bd (hr : ∀ i : Int, 0 ≤ i → i < L → -128 ≤ t i ∧ t i < 128) (h : q ≤ L) : -128 ≤ tv t L q ∧ tv t L q ≤ 10000000 := by
  have b := tbg_b (t := t) h
  have k := tk_b t L q
  by_cases c : tbg t L q < L
  · by_cases c1 : tA (t (tbg t L q)) = true
    · unfold tv; rw [if_pos c, if_pos c1]; omega
    · by_cases c2 : tD (t (tbg t L q)) = true
      · have k2 : tk t L q = 2 := by unfold tk; rw [if_pos c, if_neg c1, if_pos c2]
        obtain ⟨_, _, e, d⟩ := tk_2 h k2
        rw [e]
        have te2 := te_b (t := t) h
        have := tvN_b (t := t) (b := tbg t L q) (n := te t L q - tbg t L q) fun i a z => d i a (by omega)
        omega
      · unfold tv; rw [if_pos c, if_neg c1, if_neg c2]
        have := hr (tbg t L q) (by omega) (by omega)
        omega
  · unfold tv; rw [if_neg c]; omega
/-! what a reading does: the place before the token, and the error -/
abbrev tS : Type := Nat × Int
def tKd (t : Int → Int) (L : Nat) (s : tS) : Int := if s.2 = 0 then tk t L s.1 else 0
def tFail (c : Int) (s : tS) : tS := if s.2 = 0 then (s.1, c) else s
def tAdv (t : Int → Int) (L : Nat) (s : tS) : tS := if s.2 = 0 then (te t L s.1, 0) else s
def tNumV (t : Int → Int) (L : Nat) (lo hi : Int) (s : tS) : Int := if tKd t L s ≠ 2 ∨ tv t L s.1 < lo ∨ hi < tv t L s.1 then lo else tv t L s.1
def tNumS (t : Int → Int) (L : Nat) (lo hi : Int) (s : tS) : tS := if tKd t L s ≠ 2 then tFail 1 s else if tv t L s.1 < lo ∨ hi < tv t L s.1 then tFail 2 s else tAdv t L s
abbrev tWd (t : Int → Int) (L : Nat) (w : List Int) (s : tS) : Prop := tKd t L s = 1 ∧ te t L s.1 - tbg t L s.1 = w.length ∧ ∀ k : Nat, k < w.length → t ((tbg t L s.1 + k : Nat) : Int) = w.getD k 0
abbrev tSg (t : Int → Int) (L : Nat) (c : Int) (s : tS) : Prop := tKd t L s = 3 ∧ tv t L s.1 = c
def tSgS (t : Int → Int) (L : Nat) (c : Int) (s : tS) : tS := if tSg t L c s then tAdv t L s else tFail 1 s
theorem tKd_0 {s : tS} (h : s.2 = 0) : tKd t L s = tk t L s.1 := if_pos h
theorem tKd_e {s : tS} (h : s.2 ≠ 0) : tKd t L s = 0 := if_neg h
theorem tKd_z {s : tS} (h : tKd t L s ≠ 0) : s.2 = 0 := Decidable.byContradiction fun c => h (if_neg c)
theorem tFail_1 {c : Int} {s : tS} : (tFail c s).1 = s.1 := by unfold tFail; split <;> rfl
theorem tFail_2 {c : Int} {s : tS} (hc : c ≠ 0) : (tFail c s).2 ≠ 0 := by
  unfold tFail
  by_cases h : s.2 = 0
  · rw [if_pos h]; exact hc
  · rw [if_neg h]; exact h
theorem tAdv_1 {s : tS} (h : s.1 ≤ L) : s.1 ≤ (tAdv t L s).1 ∧ (tAdv t L s).1 ≤ L := by
  have a := tbg_b (t := t) h
  have b := te_b (t := t) h
  unfold tAdv
  split
  · show s.1 ≤ te t L s.1 ∧ te t L s.1 ≤ L; omega
  · omega
theorem tAdv_2 {s : tS} : (tAdv t L s).2 = s.2 := by
  unfold tAdv
  by_cases h : s.2 = 0
  · rw [if_pos h, h]
  · rw [if_neg h]
theorem tNumS_1 {lo hi : Int} {s : tS} (h : s.1 ≤ L) : s.1 ≤ (tNumS t L lo hi s).1 ∧ (tNumS t L lo hi s).1 ≤ L := by
  unfold tNumS
  split
  · rw [tFail_1]; omega
  · split
    · rw [tFail_1]; omega
    · exact tAdv_1 h
theorem tNumS_2 {lo hi : Int} {s : tS} (h : (tNumS t L lo hi s).2 = 0) : s.2 = 0 ∧ lo ≤ tNumV t L lo hi s ∧ tNumV t L lo hi s ≤ hi ∧ tNumV t L lo hi s = tv t L s.1 ∧ tk t L s.1 = 2 := by
  unfold tNumS at h
  by_cases c : tKd t L s ≠ 2
  · rw [if_pos c] at h; exact absurd h (tFail_2 (by decide))
  · rw [if_neg c] at h
    have c' : tKd t L s = 2 := Decidable.not_not.mp c
    have z := tKd_z (t := t) (L := L) (s := s) (by omega)
    by_cases c2 : tv t L s.1 < lo ∨ hi < tv t L s.1
    · rw [if_pos c2] at h; exact absurd h (tFail_2 (by decide))
    · have e : tNumV t L lo hi s = tv t L s.1 := if_neg fun q => by rcases q with q | q; exact q c'; exact c2 q
      rw [e]
      refine ⟨z, by omega, by omega, rfl, ?_⟩
      rw [← tKd_0 z]; exact c'
theorem tSgS_1 {c : Int} {s : tS} (h : s.1 ≤ L) : s.1 ≤ (tSgS t L c s).1 ∧ (tSgS t L c s).1 ≤ L := by
  unfold tSgS
  split
  · exact tAdv_1 h
  · rw [tFail_1]; omega
theorem tSgS_2 {c : Int} {s : tS} (h : (tSgS t L c s).2 = 0) : s.2 = 0 := by
  unfold tSgS at h
  split at h
  · rw [tAdv_2] at h; exact h
  · exact absurd h (tFail_2 (by decide))
end ZTK

/-! the class's shape in the law's memory; the text that is said -/
section ZT2
variable {G : zG} {M : zMeth} {d pc : Nat} {ls : List (Nat × zV)} {st : List zV} {σ σ1 : zMem} {Q : zRes → zMem → Prop} {P : Nat → Int → Prop} {t : Int → Int} {wh : Nat}
def pSh (σ : zMem) : Prop := 228 ≤ zn σ ∧ (∀ h, h < 228 → zkd σ h = zkd zkC h) ∧ ∀ h j, h < 228 → zra σ h j = zra zkC h j
theorem pSh.kd {h : Nat} {v : Nat × Nat} (s : pSh σ) (e : h < 228 ∧ zkd zkC h = v) : zkd σ h = v := (s.2.1 h e.1).trans e.2
theorem pSh.lt {h : Nat} (s : pSh σ) (e : h < 228) : h < zn σ := Nat.lt_of_lt_of_le e s.1
theorem pSh.ra {h : Nat} {j : Int} {v : Option Nat} (s : pSh σ) (e : h < 228 ∧ zra zkC h j = v) : zra σ h j = v := (s.2.2 h j e.1).trans e.2
theorem pSh.sta {b : Nat} (s : pSh σ) (e1 : B0 b < 228 ∧ zkd zkC (B0 b) = (0, 8)) (e2 : ∀ q ∈ stF, zra zkC (B0 b) ((q.1 : Nat) : Int) = some (B0 (b + q.1)) ∧ B0 (b + q.1) < 228 ∧ zkd zkC (B0 (b + q.1)) = (1, q.2)) : cSt σ B0 b := ⟨s.kd e1, s.lt e1.1, fun k n q => by
  have h := e2 (k, n) q
  exact ⟨s.ra ⟨e1.1, h.1⟩, s.lt h.2.1, s.kd ⟨h.2.1, h.2.2⟩⟩⟩
theorem pSh.ch {b : Nat} (s : pSh σ) (e1 : B0 b < 228 ∧ zkd zkC (B0 b) = (0, 1)) (e2 : ∀ q ∈ chF, zra zkC (B0 b) ((q.1 : Nat) : Int) = some (B0 (b + q.1)) ∧ B0 (b + q.1) < 228 ∧ zkd zkC (B0 (b + q.1)) = (1, q.2)) : cCh σ B0 b := ⟨s.kd e1, s.lt e1.1, fun k n q => by
  have h := e2 (k, n) q
  exact ⟨s.ra ⟨e1.1, h.1⟩, s.lt h.2.1, s.kd ⟨h.2.1, h.2.2⟩⟩⟩
theorem pSh.ar {b : Nat} {f : List (Nat × Nat)} (s : pSh σ) (e1 : B0 b < 228) (e2 : ∀ q ∈ f, zra zkC (B0 b) ((q.1 : Nat) : Int) = some (B0 (b + q.1)) ∧ B0 (b + q.1) < 228 ∧ zkd zkC (B0 (b + q.1)) = (1, q.2)) : ∀ k n, (k, n) ∈ f → zra σ (B0 b) ((k : Nat) : Int) = some (B0 (b + k)) ∧ B0 (b + k) < zn σ ∧ zkd σ (B0 (b + k)) = (1, n) := fun k n q => by
  have h := e2 (k, n) q
  exact ⟨s.ra ⟨e1, h.1⟩, s.lt h.2.1, s.kd ⟨h.2.1, h.2.2⟩⟩
theorem pSh.cM (s : pSh σ) : cM σ B0 := ⟨s.ch (by decide +kernel) (by decide +kernel), s.sta (by decide +kernel) (by decide +kernel), ⟨s.kd (by decide +kernel), s.lt (by decide +kernel), s.ra (by decide +kernel), s.ra (by decide +kernel), s.ra (by decide +kernel), s.ra (by decide +kernel), s.lt (by decide +kernel), s.kd (by decide +kernel), s.lt (by decide +kernel), s.kd (by decide +kernel)⟩, B0_inj⟩
theorem pSh.cO (s : pSh σ) : cO σ B0 := ⟨s.cM, s.kd (by decide +kernel), s.lt (by decide +kernel), s.ra (by decide +kernel), s.ra (by decide +kernel), s.ra (by decide +kernel), s.ra (by decide +kernel), s.ra (by decide +kernel), s.ra (by decide +kernel), s.ra (by decide +kernel), s.ra (by decide +kernel), s.ra (by decide +kernel), s.ra (by decide +kernel), s.ra (by decide +kernel)⟩
theorem pSh.cPr (s : pSh σ) : cPr σ B0 := ⟨s.kd (by decide +kernel), s.lt (by decide +kernel), s.ra (by decide +kernel), s.ra (by decide +kernel), s.ra (by decide +kernel), s.ar (by decide +kernel) (by decide +kernel)⟩
theorem pSh.cCl (s : pSh σ) : cCl σ B0 := ⟨s.kd (by decide +kernel), s.lt (by decide +kernel), s.ra (by decide +kernel), s.ra (by decide +kernel), s.ra (by decide +kernel), s.ra (by decide +kernel), s.lt (by decide +kernel), s.kd (by decide +kernel)⟩
theorem pSh.cCt (s : pSh σ) : cCt σ B0 := ⟨s.kd (by decide +kernel), s.lt (by decide +kernel), s.ra (by decide +kernel), s.ra (by decide +kernel), s.ra (by decide +kernel), s.ch (by decide +kernel) (by decide +kernel), s.sta (by decide +kernel) (by decide +kernel), B0_inj⟩
theorem pSh.hr (s : pSh σ) : ∀ i : Int, 0 ≤ i → i < 10 → zra σ (B0 601) i = some (B0 (slb i)) ∧ cSt σ B0 (slb i) := fun i a b => by
  have q : i = 0 ∨ i = 1 ∨ i = 2 ∨ i = 3 ∨ i = 4 ∨ i = 5 ∨ i = 6 ∨ i = 7 ∨ i = 8 ∨ i = 9 := by omega
  rcases q with q | q | q | q | q | q | q | q | q | q <;> subst q
  · exact ⟨s.ra (by decide +kernel), s.sta (by decide +kernel) (by decide +kernel)⟩
  · exact ⟨s.ra (by decide +kernel), s.sta (by decide +kernel) (by decide +kernel)⟩
  · exact ⟨s.ra (by decide +kernel), s.sta (by decide +kernel) (by decide +kernel)⟩
  · exact ⟨s.ra (by decide +kernel), s.sta (by decide +kernel) (by decide +kernel)⟩
  · exact ⟨s.ra (by decide +kernel), s.sta (by decide +kernel) (by decide +kernel)⟩
  · exact ⟨s.ra (by decide +kernel), s.sta (by decide +kernel) (by decide +kernel)⟩
  · exact ⟨s.ra (by decide +kernel), s.sta (by decide +kernel) (by decide +kernel)⟩
  · exact ⟨s.ra (by decide +kernel), s.sta (by decide +kernel) (by decide +kernel)⟩
  · exact ⟨s.ra (by decide +kernel), s.sta (by decide +kernel) (by decide +kernel)⟩
  · exact ⟨s.ra (by decide +kernel), s.sta (by decide +kernel) (by decide +kernel)⟩
theorem pSh.cHs (s : pSh σ) : cHs σ B0 := ⟨s.kd (by decide +kernel), s.lt (by decide +kernel), s.ra (by decide +kernel), s.ra (by decide +kernel), s.kd (by decide +kernel), s.lt (by decide +kernel), s.hr, s.sta (by decide +kernel) (by decide +kernel)⟩
theorem pSh.tk (s : pSh σ) {L : Nat} (hL : L ≤ 700) (h : ∀ j : Int, 0 ≤ j → j < (L : Int) → zia σ (B0 10) j = t j ∧ -128 ≤ t j ∧ t j < 128) : cTk σ B0 t L := ⟨s.kd (by decide +kernel), s.lt (by decide +kernel), s.ra (by decide +kernel), s.kd (by decide +kernel), s.lt (by decide +kernel), (by decide +kernel), hL, h⟩
theorem pSh.bl (s : pSh σ) : B0 0 < zn σ := s.lt (by decide +kernel)
theorem pSh.bk (s : pSh σ) : zkd σ (B0 0) = (0, 11) := s.kd (by decide +kernel)
theorem pSh.tl (s : pSh σ) : zkd σ (B0 10) = (2, 700) ∧ B0 10 < zn σ := ⟨s.kd (by decide +kernel), s.lt (by decide +kernel)⟩
theorem pSh.fr (s : pSh σ) (f : zFr P σ σ1) : pSh σ1 := ⟨by rw [f.1]; exact s.1, by rw [f.2.1]; exact s.2.1, by rw [f.2.2.1]; exact s.2.2⟩
/-- the text l is said: what is fed, what waits in the row wh -/
def tI (l : List Nat) (wh : Nat) (σ : zMem) : Prop := zkd σ wh = (1, 6) ∧ (228 ≤ wh ∧ wh < zn σ) ∧ ((∀ x ∈ l, x < 128) ∧ l.length ≤ 700) ∧ zia σ wh 5 = (l.length : Int) ∧ zia σ (B0 0) ((1 : Nat) : Int) = ((20 * (l.length / 20) : Nat) : Int) ∧ (∀ j : Nat, j < 20 * (l.length / 20) → zia σ (B0 10) j = ((l.getD j 0 : Nat) : Int)) ∧ ∀ k : Nat, k < 5 → zia σ wh k = ((pkB (fun i => l.getD (20 * (l.length / 20) + 4 * k + i) 0) : Nat) : Int)
def tFr (wh : Nat) (h : Nat) (j : Int) : Prop := h = wh ∨ PBf B0 h j
theorem tg_lt {l : List Nat} (h : ∀ x ∈ l, x < 128) (j : Nat) : l.getD j 0 < 128 := by
  rw [List.getD_eq_getElem?_getD]
  cases e : l[j]? with
  | none => show 0 < 128; omega
  | some x => exact h x (List.mem_of_getElem? e)
theorem tg_app {l : List Nat} {b j : Nat} : (l ++ [b]).getD j 0 = if j = l.length then b else l.getD j 0 := by
  rw [List.getD_eq_getElem?_getD, List.getD_eq_getElem?_getD]
  by_cases c : j < l.length
  · rw [List.getElem?_append_left c, if_neg (by omega)]
  · rw [List.getElem?_append_right (by omega)]
    by_cases e : j = l.length
    · rw [if_pos e, show j - l.length = 0 by omega]
      rfl
    · rw [if_neg e, List.getElem?_eq_none (by show [b].length ≤ _; show 1 ≤ _; omega), List.getElem?_eq_none (by omega)]
theorem tg_out {l : List Nat} {j : Nat} (h : l.length ≤ j) : l.getD j 0 = 0 := by
  rw [List.getD_eq_getElem?_getD, List.getElem?_eq_none h]
  rfl
theorem bL_l2 : ∀ a ∈ bL, a.2 < 228 := by decide +kernel
theorem B0_lt (k : Nat) : B0 k < 228 ∨ B0 k = 2000000 + 2 * k := (B0_or k).imp (fun a => bL_l2 _ a) id
theorem pkB_congr {f g : Nat → Nat} (h : ∀ i, i < 4 → f i = g i) : pkB f = pkB g := by
  unfold pkB
  rw [h 0 (by omega), h 1 (by omega), h 2 (by omega), h 3 (by omega)]
theorem B0_w {wh : Nat} (h1 : 228 ≤ wh) (h2 : wh < zbg) (k : Nat) : B0 k ≠ wh := by
  have := B0_lt k
  have z : zbg = 1000000 := rfl
  omega
/-- the byte joins those that wait -/
theorem ad_or {l : List Nat} {b : Nat} (hl : ∀ x ∈ l, x < 128) (hb : b < 128) : (Int32.ofInt ((pkB (fun i => l.getD (20 * (l.length / 20) + 4 * (l.length % 20 / 4) + i) 0) : Nat) : Int) ||| Int32.ofInt (((b <<< (24 - 8 * (l.length % 4)) : Nat)) : Int)).toInt = ((pkB (fun i => (l ++ [b]).getD (20 * (l.length / 20) + 4 * (l.length % 20 / 4) + i) 0) : Nat) : Int) := by
  have h1 : ∀ i, i < 4 → l.getD (20 * (l.length / 20) + 4 * (l.length % 20 / 4) + i) 0 < 128 := fun i _ => tg_lt hl _
  have hs : b <<< (24 - 8 * (l.length % 4)) < 2147483648 := by
    rw [Nat.shiftLeft_eq]
    have c : l.length % 4 = 0 ∨ l.length % 4 = 1 ∨ l.length % 4 = 2 ∨ l.length % 4 = 3 := by omega
    rcases c with c | c | c | c <;> rw [c]
    · show b * 16777216 < _; omega
    · show b * 65536 < _; omega
    · show b * 256 < _; omega
    · show b * 1 < _; omega
  rw [or_nat (pkB_lt h1) hs, pkB_or h1 (by omega) (fun i a c => tg_out (by omega)) hb]
  congr 2
  funext i
  rw [tg_app]
  by_cases c : i = l.length % 4
  · rw [if_pos c, if_pos (by omega)]
  · rw [if_neg c, if_neg (by omega)]
theorem ad_shl {l : List Nat} {b : Nat} (hb : b < 128) : (Int32.ofInt ((b : Nat) : Int) <<< (Int32.ofInt (24 - 8 * (((l.length : Nat) : Int) % 4)) &&& 31)).toInt = ((b <<< (24 - 8 * (l.length % 4)) : Nat) : Int) := by
  rw [show (24 : Int) - 8 * (((l.length : Nat) : Int) % 4) = 24 - 8 * ((l.length % 4 : Nat) : Int) by omega]
  exact shl_b ⟨b, hb⟩ ⟨l.length % 4, by omega⟩
theorem pkB_0 : pkB (fun _ => 0) = 0 := rfl
theorem pk_rg {l : List Nat} (hl : ∀ x ∈ l, x < 128) (j : Nat) : zrg ((pkB (fun i => l.getD (j + i) 0) : Nat) : Int) := by
  have := pkB_lt (f := fun i => l.getD (j + i) 0) fun i _ => tg_lt hl _
  exact ⟨by omega, by omega⟩
/-- the row behind the byte -/
theorem ad_row {l : List Nat} {b : Nat} {σ : zMem} (h : tI l wh σ) {u v : Int} (eu : u = ((l.length % 20 / 4 : Nat) : Int)) (ev : v = ((pkB (fun i => (l ++ [b]).getD (20 * (l.length / 20) + 4 * (l.length % 20 / 4) + i) 0) : Nat) : Int)) {w : Int} (k : Nat) (hk : k < 5) : zia (zsi (zsi σ wh u v) wh 5 w) wh k = ((pkB (fun i => (l ++ [b]).getD (20 * (l.length / 20) + 4 * k + i) 0) : Nat) : Int) := by
  rw [zia_si, if_neg (by omega), zia_si]
  by_cases c : k = l.length % 20 / 4
  · rw [if_pos ⟨rfl, by omega⟩, ev, c]
  · rw [if_neg (by omega), h.2.2.2.2.2.2 k hk]
    have q : ∀ i, i < 4 → (l ++ [b]).getD (20 * (l.length / 20) + 4 * k + i) 0 = l.getD (20 * (l.length / 20) + 4 * k + i) 0 := fun i hi => by
      rw [tg_app, if_neg (by omega)]
    exact congrArg (fun x : Nat => (x : Int)) (pkB_congr fun i hi => (q i hi).symm)
theorem fd_by {l : List Nat} {c : Nat} (hl : ∀ x ∈ l, x < 128) {j : Nat} (hj : j < 20) : zby (fdT ((pkB (fun i => l.getD (c + 4 * 0 + i) 0) : Nat) : Int) ((pkB (fun i => l.getD (c + 4 * 1 + i) 0) : Nat) : Int) ((pkB (fun i => l.getD (c + 4 * 2 + i) 0) : Nat) : Int) ((pkB (fun i => l.getD (c + 4 * 3 + i) 0) : Nat) : Int) ((pkB (fun i => l.getD (c + 4 * 4 + i) 0) : Nat) : Int) (j : Int)) = ((l.getD (c + j) 0 : Nat) : Int) := by
  have e : (24 : Int) - 8 * ((j : Int) % 4) = 24 - 8 * ((j % 4 : Nat) : Int) := by omega
  have h : ∀ k i, i < 4 → l.getD (c + 4 * k + i) 0 < 128 := fun k i _ => tg_lt hl _
  unfold fdT fdV
  rw [e]
  by_cases c0 : j < 4
  · rw [if_pos (by omega), pkB_by (h 0) (by omega)]
    congr 2
    omega
  · rw [if_neg (by omega)]
    by_cases c1 : j < 8
    · rw [if_pos (by omega), pkB_by (h 1) (by omega)]
      congr 2
      omega
    · rw [if_neg (by omega)]
      by_cases c2 : j < 12
      · rw [if_pos (by omega), pkB_by (h 2) (by omega)]
        congr 2
        omega
      · rw [if_neg (by omega)]
        by_cases c3 : j < 16
        · rw [if_pos (by omega), pkB_by (h 3) (by omega)]
          congr 2
          omega
        · rw [if_neg (by omega), pkB_by (h 4) (by omega)]
          congr 2
          omega
end ZT2

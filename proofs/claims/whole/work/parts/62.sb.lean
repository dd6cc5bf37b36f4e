/-! StringBuilder: its texts -/
section ZSC
/-- the StringBuilder h holds the text l in a row vv of cap bytes -/
def sbI (σ : zMem) (h vv cap : Nat) (l : List Int) : Prop :=
  zkd σ h = (0, 13) ∧ h < zn σ ∧ zra σ h ((0 : Nat) : Int) = some vv ∧ vv < zn σ ∧ zkd σ vv = (2, cap) ∧ zia σ h ((1 : Nat) : Int) = 0 ∧ zia σ h ((3 : Nat) : Int) = (l.length : Int) ∧ l.length ≤ cap ∧ (cap = 16 ∨ cap = 34) ∧ (∀ j : Nat, j < l.length → zia σ vv j = l.getD j 0) ∧ (∀ j : Int, 0 ≤ j → j < (cap : Int) → -128 ≤ zia σ vv j ∧ zia σ vv j < 128)
theorem sbI.kd {σ : zMem} {h vv cap : Nat} {l : List Int} (k : sbI σ h vv cap l) : zkd σ h = (0, 13) := k.1
theorem sbI.lt {σ : zMem} {h vv cap : Nat} {l : List Int} (k : sbI σ h vv cap l) : h < zn σ := k.2.1
theorem sbI.val {σ : zMem} {h vv cap : Nat} {l : List Int} (k : sbI σ h vv cap l) : zra σ h ((0 : Nat) : Int) = some vv := k.2.2.1
theorem sbI.vlt {σ : zMem} {h vv cap : Nat} {l : List Int} (k : sbI σ h vv cap l) : vv < zn σ := k.2.2.2.1
theorem sbI.vkd {σ : zMem} {h vv cap : Nat} {l : List Int} (k : sbI σ h vv cap l) : zkd σ vv = (2, cap) := k.2.2.2.2.1
theorem sbI.cod {σ : zMem} {h vv cap : Nat} {l : List Int} (k : sbI σ h vv cap l) : zia σ h ((1 : Nat) : Int) = 0 := k.2.2.2.2.2.1
theorem sbI.cnt {σ : zMem} {h vv cap : Nat} {l : List Int} (k : sbI σ h vv cap l) : zia σ h ((3 : Nat) : Int) = (l.length : Int) := k.2.2.2.2.2.2.1
theorem sbI.len {σ : zMem} {h vv cap : Nat} {l : List Int} (k : sbI σ h vv cap l) : l.length ≤ cap := k.2.2.2.2.2.2.2.1
theorem sbI.cap {σ : zMem} {h vv cap : Nat} {l : List Int} (k : sbI σ h vv cap l) : cap = 16 ∨ cap = 34 := k.2.2.2.2.2.2.2.2.1
theorem sbI.txt {σ : zMem} {h vv cap : Nat} {l : List Int} (k : sbI σ h vv cap l) : ∀ j : Nat, j < l.length → zia σ vv j = l.getD j 0 := k.2.2.2.2.2.2.2.2.2.1
theorem sbI.byt {σ : zMem} {h vv cap : Nat} {l : List Int} (k : sbI σ h vv cap l) : ∀ j : Int, 0 ≤ j → j < (cap : Int) → -128 ≤ zia σ vv j ∧ zia σ vv j < 128 := k.2.2.2.2.2.2.2.2.2.2
theorem sbI.ne {σ : zMem} {h vv cap : Nat} {l : List Int} (k : sbI σ h vv cap l) : h ≠ vv := fun e => by
  have a := k.kd
  rw [e, k.vkd] at a
  cases a
/-- what a StringBuilder's method may change: itself, its row, a new row -/
def sbS (σ σ1 : zMem) (h vv vv1 cap cap1 : Nat) : Prop :=
  (∀ x, (x = vv1 → cap1 = cap) → zkd σ1 x = zkd σ x) ∧ (∀ x j, (x = vv1 → cap1 = cap) → x ≠ h → zra σ1 x j = zra σ x j) ∧ (∀ x j, (x = vv1 → cap1 = cap) → x ≠ h → x ≠ vv → zia σ1 x j = zia σ x j) ∧
  ((zn σ1 = zn σ ∧ zcs σ1 = zcs σ ∧ zss σ1 = zss σ ∧ cap1 = cap ∧ vv1 = vv) ∨ (zn σ1 = zn σ + 1 ∧ zcs σ1 = zcs σ + 1 ∧ zss σ1 = zss σ + 34 ∧ cap = 16 ∧ cap1 = 34 ∧ vv1 = zn σ))
theorem sbS.rf {σ : zMem} {h vv cap : Nat} : sbS σ σ h vv vv cap cap := ⟨fun _ _ => rfl, fun _ _ _ _ => rfl, fun _ _ _ _ _ => rfl, Or.inl ⟨rfl, rfl, rfl, rfl, rfl⟩⟩
theorem sbS.n {σ σ1 : zMem} {h vv vv1 cap cap1 : Nat} (a : sbS σ σ1 h vv vv1 cap cap1) : zn σ ≤ zn σ1 ∧ zn σ1 ≤ zn σ + 1 := by
  rcases a.2.2.2 with c | c <;> omega
theorem sbS.tr {σ σ1 σ2 : zMem} {h vv vv1 vv2 cap cap1 cap2 : Nat} (a : sbS σ σ1 h vv vv1 cap cap1) (b : sbS σ1 σ2 h vv1 vv2 cap1 cap2) : sbS σ σ2 h vv vv2 cap cap2 := by
  obtain ⟨a1, a2, a3, a4⟩ := a
  obtain ⟨b1, b2, b3, b4⟩ := b
  have ea : ∀ x, (x = vv2 → cap2 = cap) → x = vv1 → cap1 = cap := fun x h1 h2 => by
    rcases a4 with c | c
    · exact c.2.2.2.1
    · rcases b4 with e | e
      · have := h1 (by omega); omega
      · omega
  have eb : ∀ x, (x = vv2 → cap2 = cap) → x = vv2 → cap2 = cap1 := fun x h1 h2 => by
    have h3 := h1 h2
    rcases a4 with c | c
    · omega
    · rcases b4 with e | e <;> omega
  refine ⟨fun x hx => (b1 x (eb x hx)).trans (a1 x (ea x hx)), fun x j hx hh => (b2 x j (eb x hx) hh).trans (a2 x j (ea x hx) hh), fun x j hx hh hv => ?_, ?_⟩
  · refine (b3 x j (eb x hx) hh ?_).trans (a3 x j (ea x hx) hh hv)
    intro q
    have h1 := ea x hx q
    rcases a4 with c | c <;> omega
  · rcases a4 with c | c <;> rcases b4 with e | e <;> first | (exfalso; omega) | (refine Or.inl ⟨?_, ?_, ?_, ?_, ?_⟩ <;> omega) | (refine Or.inr ⟨?_, ?_, ?_, ?_, ?_, ?_⟩ <;> omega)
/-- a text put behind -/
theorem sb_app {σ σ1 : zMem} {h vv cap : Nat} {l w : List Int} (k : sbI σ h vv cap l) (hl : l.length + w.length ≤ cap) (hw : ∀ j, j < w.length → -128 ≤ w.getD j 0 ∧ w.getD j 0 < 128) (e1 : ∀ j, zia σ1 h j = if j = ((3 : Nat) : Int) then (l.length : Int) + w.length else zia σ h j) (e2 : ∀ j : Int, zia σ1 vv j = if (l.length : Int) ≤ j ∧ j < (l.length : Int) + w.length then w.getD (j - l.length).toNat 0 else zia σ vv j)
    (e3 : ∀ x j, x ≠ h → x ≠ vv → zia σ1 x j = zia σ x j) (e4 : zkd σ1 = zkd σ) (e5 : zra σ1 = zra σ) (e6 : zn σ1 = zn σ) (e7 : zcs σ1 = zcs σ) (e8 : zss σ1 = zss σ) :
    sbI σ1 h vv cap (l ++ w) ∧ sbS σ σ1 h vv vv cap cap := by
  refine ⟨⟨by rw [e4]; exact k.kd, by rw [e6]; exact k.lt, by rw [e5]; exact k.val, by rw [e6]; exact k.vlt, by rw [e4]; exact k.vkd, ?_, ?_, by rw [List.length_append]; exact hl, k.cap, fun j hj => ?_, fun j j0 j1 => ?_⟩, fun x _ => by rw [e4], fun x j _ _ => by rw [e5], fun x j _ a b => e3 x j a b, Or.inl ⟨e6, e7, e8, rfl, rfl⟩⟩
  · rw [e1, if_neg (by decide)]; exact k.cod
  · rw [e1, if_pos rfl, List.length_append]; push_cast; rfl
  · rw [List.length_append] at hj
    rw [e2]
    by_cases q : l.length ≤ j
    · rw [if_pos ⟨by omega, by omega⟩, show ((j : Int) - l.length).toNat = j - l.length by omega]
      simp [List.getD_eq_getElem?_getD, List.getElem?_append_right q]
    · rw [if_neg (fun z => q (by omega)), k.txt j (by omega)]
      simp [List.getD_eq_getElem?_getD, List.getElem?_append_left (show j < l.length by omega)]
  · rw [e2]
    split
    · exact hw _ (by omega)
    · exact k.byt j j0 j1
theorem sb_put {σ : zMem} {h vv cap : Nat} {l : List Int} {n c : Int} (k : sbI σ h vv cap l) (en : n = l.length) (hl : l.length + 1 ≤ cap) (h0 : 0 ≤ c) (h1 : c < 128) : sbI (zsi (zsi σ h ((3 : Nat) : Int) (n + 1)) vv n c) h vv cap (l ++ [c]) ∧ sbS σ (zsi (zsi σ h ((3 : Nat) : Int) (n + 1)) vv n c) h vv vv cap cap := by
  subst en
  have ne := k.ne
  refine sb_app k hl (fun j hj => ?_) (fun j => ?_) (fun j => ?_) (fun x j a b => ?_) rfl rfl rfl rfl rfl
  · have : j = 0 := by simp at hj; exact hj
    subst this
    show -128 ≤ c ∧ c < 128
    omega
  · rw [zia_si, if_neg (fun q => ne q.1), zia_si]
    by_cases c9 : j = ((3 : Nat) : Int)
    · rw [if_pos ⟨rfl, c9⟩, if_pos c9]; rfl
    · rw [if_neg (fun q => c9 q.2), if_neg c9]
  · rw [zia_si]
    by_cases c9 : j = (l.length : Int)
    · rw [if_pos ⟨rfl, c9⟩, if_pos ⟨by omega, by show j < (l.length : Int) + ((1 : Nat) : Int); omega⟩, c9, show ((l.length : Int) - l.length).toNat = 0 by omega]; rfl
    · rw [if_neg (fun q => c9 q.2), if_neg (fun q => c9 (by have q2 : j < (l.length : Int) + ((1 : Nat) : Int) := q.2; omega)), zia_si, if_neg (fun q => ne q.1.symm)]
  · rw [zia_si, if_neg (fun q => b q.1), zia_si, if_neg (fun q => a q.1)]
theorem sb_put2 {σ : zMem} {h vv cap : Nat} {l : List Int} {n c : Int} (k : sbI σ h vv cap l) (en : n = l.length) (hl : l.length + 1 ≤ cap) (h0 : 0 ≤ c) (h1 : c < 128) : sbI (zsi (zsi σ vv n c) h ((3 : Nat) : Int) (n + 1)) h vv cap (l ++ [c]) ∧ sbS σ (zsi (zsi σ vv n c) h ((3 : Nat) : Int) (n + 1)) h vv vv cap cap := by
  have e : zsi (zsi σ vv n c) h ((3 : Nat) : Int) (n + 1) = zsi (zsi σ h ((3 : Nat) : Int) (n + 1)) vv n c := by
    have ne := k.ne
    unfold zsi
    dsimp only
    congr 3
    funext x j
    by_cases a : x = h ∧ j = ((3 : Nat) : Int)
    · rw [if_pos a, if_neg (fun q => ne (a.1.symm.trans q.1)), if_pos a]
    · rw [if_neg a, if_neg a]
  rw [e]
  exact sb_put k en hl h0 h1
theorem sb_str {σ : zMem} {h vv cap i : Nat} {l : List Int} {n : Int} (hi : i < 59) (k : sbI σ h vv cap l) (en : n = (l.length : Int) + (zsl i : Nat)) (hl : l.length + zsl i ≤ cap) : sbI (zsi (zcpo σ vv l.length (zsl i) (fun j => zsc i j.toNat)) h ((3 : Nat) : Int) n) h vv cap (l ++ zsbi i) ∧ sbS σ (zsi (zcpo σ vv l.length (zsl i) (fun j => zsc i j.toNat)) h ((3 : Nat) : Int) n) h vv vv cap cap := by
  subst en
  have ne := k.ne
  refine sb_app k hl (fun j hj => ?_) (fun j => ?_) (fun j => ?_) (fun x j a b => ?_) rfl rfl rfl rfl rfl
  · have := zsc_b i hi j hj
    show -128 ≤ zsc i j ∧ zsc i j < 128
    omega
  · rw [zia_si]
    by_cases c9 : j = ((3 : Nat) : Int)
    · rw [if_pos ⟨rfl, c9⟩, if_pos c9]; rfl
    · rw [if_neg (fun q => c9 q.2), if_neg c9, zia_cpo, if_neg (fun q => ne q.1)]
  · rw [zia_si, if_neg (fun q => ne q.1.symm), zia_cpo]
    by_cases c9 : (l.length : Int) ≤ j ∧ j < (l.length : Int) + zsl i
    · rw [if_pos ⟨rfl, c9⟩]; exact (if_pos c9).symm
    · rw [if_neg (fun q => c9 q.2)]; exact (if_neg c9).symm
  · rw [zia_si, if_neg (fun q => a q.1), zia_cpo, if_neg (fun q => b q.1)]
theorem sb_clr {σ σ1 : zMem} {h vv cap : Nat} {l : List Int} (k : sbI σ h vv cap l) (e1 : zia σ1 h ((1 : Nat) : Int) = 0) (e3 : zia σ1 h ((3 : Nat) : Int) = 0) (e2 : ∀ x j, x ≠ h → zia σ1 x j = zia σ x j) (e4 : zkd σ1 = zkd σ) (e5 : zra σ1 = zra σ) (e6 : zn σ1 = zn σ) (e7 : zcs σ1 = zcs σ) (e8 : zss σ1 = zss σ) : sbI σ1 h vv cap [] ∧ sbS σ σ1 h vv vv cap cap :=
  ⟨⟨by rw [e4]; exact k.kd, by rw [e6]; exact k.lt, by rw [e5]; exact k.val, by rw [e6]; exact k.vlt, by rw [e4]; exact k.vkd, e1, e3, Nat.zero_le _, k.cap, fun j hj => absurd hj (Nat.not_lt_zero _), fun j j0 j1 => by rw [e2 _ _ k.ne.symm]; exact k.byt j j0 j1⟩, fun x _ => by rw [e4], fun x j _ _ => by rw [e5], fun x j _ a _ => e2 x j a, Or.inl ⟨e6, e7, e8, rfl, rfl⟩⟩
/-- room made -/
theorem sb_grow {σ : zMem} {h vv : Nat} {l : List Int} (k : sbI σ h vv 16 l) (hz : zn σ + 5 < zbg) : sbI (zsr (zcpo (znw σ 2 34 34) (zn σ) 0 16 (zia (znw σ 2 34 34) vv)) h ((0 : Nat) : Int) (some (zn σ))) h (zn σ) 34 l ∧ sbS σ (zsr (zcpo (znw σ 2 34 34) (zn σ) 0 16 (zia (znw σ 2 34 34) vv)) h ((0 : Nat) : Int) (some (zn σ))) h vv (zn σ) 16 34 := by
  have kl := k.lt
  have kv := k.vlt
  have kle := k.len
  have hh : h ≠ zn σ := by omega
  have hv : vv ≠ zn σ := by omega
  have e0 : ∀ x j, zia (zsr (zcpo (znw σ 2 34 34) (zn σ) 0 16 (zia (znw σ 2 34 34) vv)) h ((0 : Nat) : Int) (some (zn σ))) x j = if x = zn σ ∧ 0 ≤ j ∧ j < 16 then zia σ vv j else if x = zn σ then 0 else zia σ x j := fun x j => by
    rw [zia_sr, zia_cpo]
    by_cases c : x = zn σ ∧ 0 ≤ j ∧ j < 16
    · rw [if_pos ⟨c.1, by omega, by omega⟩, if_pos c, zia_nw, if_neg hv]
      congr 1
      omega
    · rw [if_neg (fun q => c ⟨q.1, by omega, by omega⟩), if_neg c, zia_nw]
  have ek : ∀ x, zkd (zsr (zcpo (znw σ 2 34 34) (zn σ) 0 16 (zia (znw σ 2 34 34) vv)) h ((0 : Nat) : Int) (some (zn σ))) x = if x = zn σ then (2, 34) else zkd σ x := fun x => rfl
  have er : ∀ x j, zra (zsr (zcpo (znw σ 2 34 34) (zn σ) 0 16 (zia (znw σ 2 34 34) vv)) h ((0 : Nat) : Int) (some (zn σ))) x j = if x = h ∧ j = ((0 : Nat) : Int) then some (zn σ) else if x = zn σ then none else zra σ x j := fun x j => rfl
  have en : zn (zsr (zcpo (znw σ 2 34 34) (zn σ) 0 16 (zia (znw σ 2 34 34) vv)) h ((0 : Nat) : Int) (some (zn σ))) = zn σ + 1 := rfl
  refine ⟨⟨?_, by rw [en]; omega, by rw [er, if_pos ⟨rfl, rfl⟩], by rw [en]; omega, by rw [ek, if_pos rfl], ?_, ?_, by omega, Or.inr rfl, fun j hj => ?_, fun j j0 j1 => ?_⟩, fun x hx => by rw [ek, if_neg (fun q => absurd (hx q) (by decide))], fun x j hx hh2 => by rw [er, if_neg (fun q => hh2 q.1), if_neg (fun q => absurd (hx q) (by decide))], fun x j hx _ _ => by rw [e0, if_neg (fun q => absurd (hx q.1) (by decide)), if_neg (fun q => absurd (hx q) (by decide))], Or.inr ⟨rfl, rfl, rfl, rfl, rfl, rfl⟩⟩
  · rw [ek, if_neg hh]; exact k.kd
  · rw [e0, if_neg (fun q => hh q.1), if_neg hh]; exact k.cod
  · rw [e0, if_neg (fun q => hh q.1), if_neg hh]; exact k.cnt
  · rw [e0, if_pos ⟨rfl, by omega, by omega⟩]; exact k.txt j hj
  · rw [e0]
    by_cases c : j < 16
    · rw [if_pos ⟨rfl, j0, c⟩]; exact k.byt j j0 c
    · rw [if_neg (fun q => c q.2.2), if_pos rfl]; omega
variable {G : zG} {M : zMeth} {d pc : Nat} {ls : List (Nat × zV)} {st : List zV} {σ : zMem} {Q : zRes → zMem → Prop} {h vv cap : Nat} {l : List Int}
theorem zF_ifnonnull (pc1 : Nat) {h : Nat} {off : Int} (hd : decode M.2.1 pc = .ok (.ifnonnull off, 3)) (ht : (pc : Int) + off = (pc1 : Int)) (k : zF G M d pc1 ls st σ Q) : zF G M d pc ls (zR h :: st) σ Q := by
  refine zF_step rfl rfl rfl ?_ k
  intro ρ p e R s m args below meth c hC H locs cells slots lsA Qm hS hR1 hR2 kk
  have q := kk H locs lsA hS
  simp only [List.map_cons, ztr, Option.map, va_rf] at q ⊢
  exact lv_ifnonnull hC.1 hC.2.1 hd ht q
theorem gJ5_15 : zFL RJ5 15 13 0 2 := ⟨_, _, _, _, zCJ4, by decide, rfl, zi1 56 rfl rfl⟩
theorem gJ5_22 : zFL RJ5 22 13 1 4 := ⟨_, _, _, _, zCJ4, by decide, rfl, zi1 57 rfl rfl⟩
theorem gJ5_79 : zFL RJ5 79 13 3 0 := ⟨_, _, _, _, zCJ4, by decide, rfl, zi1 60 rfl rfl⟩
theorem pJ5_ensureCapacityInternal_d00df_15 : zFP yJ5_ensureCapacityInternal_d00df 15 13 0 2 := ⟨_, _, _, _, zCJ4, by decide, rfl, zi1 56 rfl rfl, Or.inl rfl⟩
theorem pJ5_append_3fe6f_79 : zFP yJ5_append_3fe6f 79 13 3 0 := ⟨_, _, _, _, zCJ4, by decide, rfl, zi1 60 rfl rfl, Or.inl rfl⟩
theorem pJ5_append_c97b9_79 : zFP yJ5_append_c97b9 79 13 3 0 := ⟨_, _, _, _, zCJ4, by decide, rfl, zi1 60 rfl rfl, Or.inl rfl⟩
theorem pJ5_append_cf1ce_79 : zFP yJ5_append_cf1ce 79 13 3 0 := ⟨_, _, _, _, zCJ4, by decide, rfl, zi1 60 rfl rfl, Or.inl rfl⟩
theorem pJ5_setLength_d00df_79 : zFP yJ5_setLength_d00df 79 13 3 0 := ⟨_, _, _, _, zCJ4, by decide, rfl, zi1 60 rfl rfl, Or.inl rfl⟩
theorem pJ5_setLength_d00df_73 : zFP yJ5_setLength_d00df 73 13 2 3 := ⟨_, _, _, _, zCJ4, by decide, rfl, zi1 58 rfl rfl, Or.inl rfl⟩
theorem oJ5_39 : Cond.constant RJ5 39 (Int32.ofInt (2147483647)) ∈ lw_all := by
  rw [show Int32.ofInt (2147483647) = (2147483647 : Int32) by decide]
  exact zi6 152 rfl rfl
theorem oJ8_200 : Cond.constant RJ8 200 (Int32.ofInt (2147483639)) ∈ lw_all := by
  rw [show Int32.ofInt (2147483639) = (2147483639 : Int32) by decide]
  exact zi6 148 rfl rfl
theorem zt_J5_isLatin1  (hG : zOS G) (hI : sbI σ h vv cap l) : zP1 G mJ5_isLatin1_aae02 d [zR h] σ 1 := by
  refine zE_of rfl (by simp [zcat]) (Nat.le_of_ble_eq_true rfl) ?_
  show zF G mJ5_isLatin1_aae02 d 0 [(0, zR h)] [] σ _
  refine zF_getsI 3 dJ5_isLatin1_aae02_0 rfl fJ5_18 hG.2.1 ?_
  refine zF_if_eq 17 6 dJ5_isLatin1_aae02_3 rfl rfl (by first | decide | assumption | (constructor <;> omega)) (fun c1 => ?_) (fun c1 => ?_)
  · exact absurd c1 (by omega)
  · refine zF_aload_n 7 dJ5_isLatin1_aae02_6 rfl rfl ?_
    refine zF_getI 10 dJ5_isLatin1_aae02_7 rfl gJ5_22 (by decide) (by decide) hI.kd hI.lt hI.cod ?_
    refine zF_if_ne 17 13 dJ5_isLatin1_aae02_10 rfl rfl (by first | decide | assumption | (constructor <;> omega)) (fun c2 => ?_) (fun c2 => ?_)
    · exact absurd c2 (by omega)
    · refine zF_iconst 14 dJ5_isLatin1_aae02_13 rfl ?_
      refine zF_goto 18 dJ5_isLatin1_aae02_14 rfl ?_
      exact zF_zretP dJ5_isLatin1_aae02_18 rfl (by decide) (by first | rfl | omega)
theorem zt_J1_canEncode {c : Int} (h0 : 0 ≤ c) (h1 : c < 128) : zP1 G mJ1_canEncode_fc78d d [zI c] σ 1 := by
  refine zE_of rfl (by simp [zcat]) (Nat.le_of_ble_eq_true rfl) ?_
  show zF G mJ1_canEncode_fc78d d 0 [(0, zI c)] [] σ _
  refine zF_iload_n 1 dJ1_canEncode_fc78d_0 rfl rfl ?_
  refine zF_sipush 4 dJ1_canEncode_fc78d_1 rfl (by decide) ?_
  refine zF_icmp_gt 11 7 dJ1_canEncode_fc78d_4 rfl rfl (by first | decide | assumption | (constructor <;> omega)) (by first | decide | assumption | (constructor <;> omega)) (fun c1 => ?_) (fun c1 => ?_)
  · exact absurd c1 (by omega)
  · refine zF_iconst 8 dJ1_canEncode_fc78d_7 rfl ?_
    refine zF_goto 12 dJ1_canEncode_fc78d_8 rfl ?_
    exact zF_zretP dJ1_canEncode_fc78d_12 rfl (by decide) (by first | rfl | omega)
theorem zt_J8_newLength {a b c : Int} (a0 : 0 ≤ a) (a1 : a < 100) (b0 : 0 < b) (b1 : b < 100) (c0 : 0 ≤ c) (c1 : c < 100) : zP1 G mJ8_newLength_cabcc (d + 1) [zI a, zI b, zI c] σ (a + max b c) := by
  refine zE_of rfl (by simp [zcat]) (Nat.le_of_ble_eq_true rfl) ?_
  show zF G mJ8_newLength_cabcc (d + 1) 0 [(0, zI a), (1, zI b), (2, zI c)] [] σ _
  refine zF_iload_n 1 dJ8_newLength_cabcc_0 rfl rfl ?_
  refine zF_iload_n 2 dJ8_newLength_cabcc_1 rfl rfl ?_
  refine zF_iload_n 3 dJ8_newLength_cabcc_2 rfl rfl ?_
  refine zF_max 6 dJ8_newLength_cabcc_3 rfl kJ8_194 (Nat.le_refl _) (by first | decide | assumption | (constructor <;> omega)) (by first | decide | assumption | (constructor <;> omega)) (Nat.le_of_ble_eq_true rfl) ?_
  refine zF_iadd 7 dJ8_newLength_cabcc_6 rfl ?_
  refine zF_istore_n 8 (ls' := [(3, zI (a + (max b c))), (0, zI a), (1, zI b), (2, zI c)]) dJ8_newLength_cabcc_7 rfl (by decide) rfl ?_
  refine zF_iconst 9 dJ8_newLength_cabcc_8 rfl ?_
  refine zF_iload_n 10 dJ8_newLength_cabcc_9 rfl rfl ?_
  refine zF_icmp_ge 21 13 dJ8_newLength_cabcc_10 rfl rfl (by first | decide | assumption | (constructor <;> omega)) (by first | decide | assumption | (constructor <;> omega)) (fun c1 => ?_) (fun c1 => ?_)
  · exact absurd c1 (by omega)
  · refine zF_iload_n 14 dJ8_newLength_cabcc_13 rfl rfl ?_
    refine zF_ldc 16 dJ8_newLength_cabcc_14 rfl oJ8_200 ?_
    refine zF_icmp_gt 21 19 dJ8_newLength_cabcc_16 rfl rfl (by first | decide | assumption | (constructor <;> omega)) (by first | decide | assumption | (constructor <;> omega)) (fun c2 => ?_) (fun c2 => ?_)
    · exact absurd c2 (by omega)
    · refine zF_iload_n 20 dJ8_newLength_cabcc_19 rfl rfl ?_
      exact zF_iretP dJ8_newLength_cabcc_20 rfl (by first | rfl | omega)
theorem zt_J5_newCapacity {q : Int} (hG : zOS G) (hI : sbI σ h vv 16 l) (q0 : 16 < q) (q1 : q ≤ 34) : zP1 G mJ5_newCapacity_0f7a4 (d + 2) [zR h, zI q] σ 34 := by
  refine zE_of rfl (by simp [zcat]) (Nat.le_of_ble_eq_true rfl) ?_
  show zF G mJ5_newCapacity_0f7a4 (d + 2) 0 [(0, zR h), (1, zI q)] [] σ _
  refine zF_aload_n 1 dJ5_newCapacity_0f7a4_0 rfl rfl ?_
  refine zF_getR 4 dJ5_newCapacity_0f7a4_1 rfl gJ5_15 hI.kd hI.lt hI.val ?_
  refine zF_alen 5 dJ5_newCapacity_0f7a4_4 rfl (by decide) hI.vkd hI.vlt ?_
  refine zF_istore_n 6 (ls' := [(2, zI ((16 : Nat) : Int)), (0, zR h), (1, zI q)]) dJ5_newCapacity_0f7a4_5 rfl (by decide) rfl ?_
  refine zF_iload_n 7 dJ5_newCapacity_0f7a4_6 rfl rfl ?_
  refine zF_aload_n 8 dJ5_newCapacity_0f7a4_7 rfl rfl ?_
  refine zF_getI 11 dJ5_newCapacity_0f7a4_8 rfl gJ5_22 (by decide) (by decide) hI.kd hI.lt hI.cod ?_
  refine zF_ishl 12 dJ5_newCapacity_0f7a4_11 rfl ?_
  refine zF_I (b := q) (zshl0 (by first | decide | assumption | (constructor <;> omega))) ?_
  refine zF_istore_n 13 (ls' := [(3, zI q), (2, zI ((16 : Nat) : Int)), (0, zR h), (1, zI q)]) dJ5_newCapacity_0f7a4_12 rfl (by decide) rfl ?_
  refine zF_iload_n 14 dJ5_newCapacity_0f7a4_13 rfl rfl ?_
  refine zF_iload_n 15 dJ5_newCapacity_0f7a4_14 rfl rfl ?_
  refine zF_isub 16 dJ5_newCapacity_0f7a4_15 rfl ?_
  refine zF_istore 18 (ls' := [(4, zI (q - ((16 : Nat) : Int))), (3, zI q), (2, zI ((16 : Nat) : Int)), (0, zR h), (1, zI q)]) dJ5_newCapacity_0f7a4_16 rfl (by decide) rfl ?_
  refine zF_iload_n 19 dJ5_newCapacity_0f7a4_18 rfl rfl ?_
  refine zF_iload 21 dJ5_newCapacity_0f7a4_19 rfl rfl ?_
  refine zF_iload_n 22 dJ5_newCapacity_0f7a4_21 rfl rfl ?_
  refine zF_iconst 23 dJ5_newCapacity_0f7a4_22 rfl ?_
  refine zF_aload_n 24 dJ5_newCapacity_0f7a4_23 rfl rfl ?_
  refine zF_getI 27 dJ5_newCapacity_0f7a4_24 rfl gJ5_22 (by decide) (by decide) hI.kd hI.lt hI.cod ?_
  refine zF_ishl 28 dJ5_newCapacity_0f7a4_27 rfl ?_
  refine zF_I (b := 2) (zshl0 (by first | decide | assumption | (constructor <;> omega))) ?_
  refine zF_iadd 29 dJ5_newCapacity_0f7a4_28 rfl ?_
  refine zF_callSi 32 (d2 := (d + 1)) (as := [zI ((16 : Nat) : Int), zI (q - ((16 : Nat) : Int)), zI (((16 : Nat) : Int) + 2)]) dJ5_newCapacity_0f7a4_29 rfl kJ5_114 sJ8_newLength_cabcc (Nat.le_refl _) rfl rfl (Nat.le_of_ble_eq_true rfl) (zt_J8_newLength (by omega) (by omega) (by omega) (by omega) (by omega) (by omega)) ?_
  refine zF_istore 34 (ls' := [(5, zI (((16 : Nat) : Int) + max (q - ((16 : Nat) : Int)) (((16 : Nat) : Int) + 2))), (4, zI (q - ((16 : Nat) : Int))), (3, zI q), (2, zI ((16 : Nat) : Int)), (0, zR h), (1, zI q)]) dJ5_newCapacity_0f7a4_32 rfl (by decide) rfl ?_
  refine zF_iload 36 dJ5_newCapacity_0f7a4_34 rfl rfl ?_
  refine zF_ldc 38 dJ5_newCapacity_0f7a4_36 rfl oJ5_39 ?_
  refine zF_icmp_ne 51 41 dJ5_newCapacity_0f7a4_38 rfl rfl (by first | decide | assumption | (constructor <;> omega)) (by first | decide | assumption | (constructor <;> omega)) (fun c1 => ?_) (fun c1 => ?_)
  · refine zF_iload 53 dJ5_newCapacity_0f7a4_51 rfl rfl ?_
    refine zF_aload_n 54 dJ5_newCapacity_0f7a4_53 rfl rfl ?_
    refine zF_getI 57 dJ5_newCapacity_0f7a4_54 rfl gJ5_22 (by decide) (by decide) hI.kd hI.lt hI.cod ?_
    refine zF_ishr 58 dJ5_newCapacity_0f7a4_57 rfl ?_
    refine zF_I (b := (((16 : Nat) : Int) + max (q - ((16 : Nat) : Int)) (((16 : Nat) : Int) + 2))) (zshr0 (by first | decide | assumption | (constructor <;> omega))) ?_
    exact zF_iretP dJ5_newCapacity_0f7a4_58 rfl (by first | rfl | omega)
  · exact absurd c1 (by omega)
theorem zt_J7_copyOf {v : Nat} (hk : zkd σ v = (2, 16)) (hv : v < zn σ) (hz : zn σ + 5 < zbg) (hb : ∀ j : Int, 0 ≤ j → j < 16 → -128 ≤ zia σ v j ∧ zia σ v j < 128) : zE G mJ7_copyOf_9075b (d + 2) [zR v, zI 34] σ (fun ro σ1 => ro = .inl (some (zR (zn σ))) ∧ σ1 = zcpo (znw σ 2 34 34) (zn σ) 0 16 (zia (znw σ 2 34 34) v)) := by
  refine zE_of rfl (by simp [zcat]) (Nat.le_of_ble_eq_true rfl) ?_
  show zF G mJ7_copyOf_9075b (d + 2) 0 [(0, zR v), (1, zI 34)] [] σ _
  refine zF_iload_n 1 dJ7_copyOf_9075b_0 rfl rfl ?_
  refine zF_aload_n 2 dJ7_copyOf_9075b_1 rfl rfl ?_
  refine zF_alen 3 dJ7_copyOf_9075b_2 rfl (by decide) hk hv ?_
  refine zF_icmp_ne 14 6 dJ7_copyOf_9075b_3 rfl rfl (by first | decide | assumption | (constructor <;> omega)) (by first | decide | assumption | (constructor <;> omega)) (fun c1 => ?_) (fun c1 => ?_)
  · refine zF_iload_n 15 dJ7_copyOf_9075b_14 rfl rfl ?_
    refine zF_newarray 17 dJ7_copyOf_9075b_15 rfl (Or.inr (Or.inl ⟨rfl, rfl⟩)) (zi1 70 rfl rfl) (by omega) (by omega) (by omega) (zwl_q (by exact (⟨zwR hv, trivial, trivial⟩ : _ ∧ _ ∧ True))) (zwl_m (by exact trivial)) ?_
    show zF G mJ7_copyOf_9075b (d + 2) 17 [(0, zR v), (1, zI 34)] [zR (zn σ)] (znw σ 2 34 34) _
    have hk2 : zkd (znw σ 2 34 34) v = (2, 16) := by rw [zkd_nw, if_neg (by omega)]; exact hk
    have hv2 : v < zn (znw σ 2 34 34) := by rw [zn_nw]; omega
    have hkn : zkd (znw σ 2 34 34) (zn σ) = (2, 34) := by rw [zkd_nw, if_pos rfl]
    have hvn : zn σ < zn (znw σ 2 34 34) := by rw [zn_nw]; omega
    have hb2 : ∀ j : Int, 0 ≤ j → j < 16 → -128 ≤ zia (znw σ 2 34 34) v j ∧ zia (znw σ 2 34 34) v j < 128 := fun j j0 j1 => by rw [zia_nw, if_neg (by omega)]; exact hb j j0 j1
    refine zF_astore_n 18 (ls' := [(2, zR (zn σ)), (0, zR v), (1, zI 34)]) dJ7_copyOf_9075b_17 rfl (by decide) rfl ?_
    refine zF_aload_n 19 dJ7_copyOf_9075b_18 rfl rfl ?_
    refine zF_iconst 20 dJ7_copyOf_9075b_19 rfl ?_
    refine zF_aload_n 21 dJ7_copyOf_9075b_20 rfl rfl ?_
    refine zF_iconst 22 dJ7_copyOf_9075b_21 rfl ?_
    refine zF_aload_n 23 dJ7_copyOf_9075b_22 rfl rfl ?_
    refine zF_alen 24 dJ7_copyOf_9075b_23 rfl (by decide) hk2 hv2 ?_
    refine zF_iload_n 25 dJ7_copyOf_9075b_24 rfl rfl ?_
    refine zF_min 28 dJ7_copyOf_9075b_25 rfl kJ7_304 (Nat.le_refl _) (by first | decide | assumption | (constructor <;> omega)) (by first | decide | assumption | (constructor <;> omega)) (Nat.le_of_ble_eq_true rfl) ?_
    refine zF_I (b := ((16 : Nat) : Int)) (by omega) ?_
    refine zF_acopyB 31 dJ7_copyOf_9075b_28 rfl (zi6 164 rfl rfl) hk2 hv2 hkn hvn (by omega) (by omega) (by omega) hb2 (by omega) (Nat.le_of_ble_eq_true rfl) ?_
    show zF G mJ7_copyOf_9075b (d + 2) 31 [(2, zR (zn σ)), (0, zR v), (1, zI 34)] [] (zcpo (znw σ 2 34 34) (zn σ) 0 16 (zia (znw σ 2 34 34) v)) _
    refine zF_aload_n 32 dJ7_copyOf_9075b_31 rfl rfl ?_
    exact zF_areturn dJ7_copyOf_9075b_32 rfl (⟨rfl, rfl⟩)
  · exact absurd c1 (by omega)
theorem zt_J5_ensure {q : Int} (hG : zOS G) (hI : sbI σ h vv cap l) (q0 : 0 ≤ q) (q1 : q ≤ 34) (hz : zn σ + 5 < zbg) : zE G mJ5_ensureCapacityInternal_d00df (d + 3) [zR h, zI q] σ (fun ro σ1 => ro = .inl none ∧ ∃ vv1 cap1, sbI σ1 h vv1 cap1 l ∧ sbS σ σ1 h vv vv1 cap cap1 ∧ q ≤ cap1) := by
  refine zE_of rfl (by simp [zcat]) (Nat.le_of_ble_eq_true rfl) ?_
  show zF G mJ5_ensureCapacityInternal_d00df (d + 3) 0 [(0, zR h), (1, zI q)] [] σ _
  have hcp := hI.cap
  have hln := hI.len
  refine zF_aload_n 1 dJ5_ensureCapacityInternal_d00df_0 rfl rfl ?_
  refine zF_getR 4 dJ5_ensureCapacityInternal_d00df_1 rfl gJ5_15 hI.kd hI.lt hI.val ?_
  refine zF_alen 5 dJ5_ensureCapacityInternal_d00df_4 rfl (by decide) hI.vkd hI.vlt ?_
  refine zF_aload_n 6 dJ5_ensureCapacityInternal_d00df_5 rfl rfl ?_
  refine zF_getI 9 dJ5_ensureCapacityInternal_d00df_6 rfl gJ5_22 (by decide) (by decide) hI.kd hI.lt hI.cod ?_
  refine zF_ishr 10 dJ5_ensureCapacityInternal_d00df_9 rfl ?_
  refine zF_I (b := ((cap : Nat) : Int)) (zshr0 (by first | decide | assumption | (constructor <;> omega))) ?_
  refine zF_istore_n 11 (ls' := [(2, zI ((cap : Nat) : Int)), (0, zR h), (1, zI q)]) dJ5_ensureCapacityInternal_d00df_10 rfl (by decide) rfl ?_
  refine zF_iload_n 12 dJ5_ensureCapacityInternal_d00df_11 rfl rfl ?_
  refine zF_iload_n 13 dJ5_ensureCapacityInternal_d00df_12 rfl rfl ?_
  refine zF_isub 14 dJ5_ensureCapacityInternal_d00df_13 rfl ?_
  refine zF_if_le 38 17 dJ5_ensureCapacityInternal_d00df_14 rfl rfl (by first | decide | assumption | (constructor <;> omega)) (fun c1 => ?_) (fun c1 => ?_)
  · exact zF_return dJ5_ensureCapacityInternal_d00df_38 rfl (⟨rfl, vv, cap, hI, sbS.rf, by omega⟩)
  · have hc16 : cap = 16 := by have := hI.cap; omega
    have hI16 : sbI σ h vv 16 l := hc16 ▸ hI
    refine zF_aload_n 18 dJ5_ensureCapacityInternal_d00df_17 rfl rfl ?_
    refine zF_aload_n 19 dJ5_ensureCapacityInternal_d00df_18 rfl rfl ?_
    refine zF_getR 22 dJ5_ensureCapacityInternal_d00df_19 rfl gJ5_15 hI.kd hI.lt hI.val ?_
    refine zF_aload_n 23 dJ5_ensureCapacityInternal_d00df_22 rfl rfl ?_
    refine zF_iload_n 24 dJ5_ensureCapacityInternal_d00df_23 rfl rfl ?_
    refine zF_callVnn 27 (d2 := (d + 2)) (as := [zI q]) dJ5_ensureCapacityInternal_d00df_24 rfl kJ5_104 iJ5_newCapacity_0f7a4 (ci := 13) rfl eJ5_newCapacity_0f7a4 (Nat.le_refl _) hI.kd hI.lt rfl rfl (Nat.le_of_ble_eq_true rfl) (by exact (⟨trivial, zwR hI.lt, trivial, trivial⟩ : _ ∧ _ ∧ _ ∧ True)) (by exact (⟨zwR hI.vlt, zwR hI.lt, trivial⟩ : _ ∧ _ ∧ True)) (zE.mono (zt_J5_newCapacity hG hI16 (by omega) q1) fun ro σx1 hh1 => ?_)
    obtain ⟨es1, er1⟩ := hh1
    first | subst er1 | skip
    first | (replace es1 := es1.symm; subst es1) | skip
    show zF G mJ5_ensureCapacityInternal_d00df (d + 3) 27 [(2, zI ((cap : Nat) : Int)), (0, zR h), (1, zI q)] [zI 34, zR vv, zR h] σ _
    refine zF_aload_n 28 dJ5_ensureCapacityInternal_d00df_27 rfl rfl ?_
    refine zF_getI 31 dJ5_ensureCapacityInternal_d00df_28 rfl gJ5_22 (by decide) (by decide) hI.kd hI.lt hI.cod ?_
    refine zF_ishl 32 dJ5_ensureCapacityInternal_d00df_31 rfl ?_
    refine zF_I (b := 34) (zshl0 (by first | decide | assumption | (constructor <;> omega))) ?_
    refine zF_callSn 35 (d2 := (d + 2)) (as := [zR vv, zI 34]) dJ5_ensureCapacityInternal_d00df_32 rfl kJ5_108 sJ7_copyOf_9075b (Nat.le_refl _) rfl rfl (Nat.le_of_ble_eq_true rfl) (by exact (⟨trivial, zwR hI.lt, trivial, trivial⟩ : _ ∧ _ ∧ _ ∧ True)) (by exact (⟨zwR hI.lt, trivial⟩ : _ ∧ True)) (zE.mono (zt_J7_copyOf hI16.vkd hI16.vlt hz hI16.byt) fun ro σx2 hh2 => ?_)
    obtain ⟨er2, es2⟩ := hh2
    subst er2
    subst es2
    show zF G mJ5_ensureCapacityInternal_d00df (d + 3) 35 [(2, zI ((cap : Nat) : Int)), (0, zR h), (1, zI q)] [zR (zn σ), zR h] (zcpo (znw σ 2 34 34) (zn σ) 0 16 (zia (znw σ 2 34 34) vv)) _
    have hkN : zkd (zcpo (znw σ 2 34 34) (zn σ) 0 16 (zia (znw σ 2 34 34) vv)) h = (0, 13) := by show zkd (znw σ 2 34 34) h = _; rw [zkd_nw, if_neg (by have := hI.lt; omega)]; exact hI.kd
    have hlN : h < zn (zcpo (znw σ 2 34 34) (zn σ) 0 16 (zia (znw σ 2 34 34) vv)) := by show h < zn σ + 1; have := hI.lt; omega
    refine zF_putR 38 dJ5_ensureCapacityInternal_d00df_35 rfl pJ5_ensureCapacityInternal_d00df_15 (by exact fun x hx => Or.inl (by have : zn σ = x := Option.some.inj hx; show x < zn σ + 1; omega)) hkN hlN ?_
    exact zF_return dJ5_ensureCapacityInternal_d00df_38 rfl (⟨rfl, zn σ, 34, (sb_grow hI16 hz).1, by rw [hc16]; exact (sb_grow hI16 hz).2, by omega⟩)
end ZSC

/-! the law's loop and start -/
section ZLW
variable {G : zG} {d n L : Nat} {xs : Nat → Int32} {σ σ1 σ2 : zMem} {Q : zRes → zMem → Prop} {i k v T : Int} {f : Nat → Int → Int}
theorem znw_ia {a b t n z : Nat} (hn : zn σ = b) (hab : a ≤ b) (e : ∀ x j, zia σ x j = if a ≤ x ∧ x < b then 0 else f x j) : ∀ x j, zia (znw σ t n z) x j = if a ≤ x ∧ x < b + 1 then 0 else f x j := fun x j => by
  rw [zia_nw, hn]
  by_cases q : x = b
  · rw [if_pos q, if_pos (by omega)]
  · rw [if_neg q, e]
    by_cases q2 : a ≤ x ∧ x < b
    · rw [if_pos q2, if_pos (by omega)]
    · rw [if_neg q2, if_neg (by omega)]
theorem km0_ia (hn : zn σ = 229) : ∀ x j, zia σ x j = if 229 ≤ x ∧ x < 229 then 0 else zia σ x j := fun x j => by rw [if_neg (by omega)]
theorem km1_n (hn : zn σ = 229) : zn (km1 σ) = 230 := by show zn σ + 1 = 230; rw [hn]
theorem km1_ia (hn : zn σ = 229) : ∀ x j, zia (km1 σ) x j = if 229 ≤ x ∧ x < 230 then 0 else zia σ x j := zmk_ia (f := zia σ) (σ := σ) hn (by decide) (km0_ia hn)
theorem km2_n (hn : zn σ = 229) : zn (km2 σ) = 231 := by show zn (km1 σ) + 1 = 231; rw [(km1_n hn)]
theorem km2_ia (hn : zn σ = 229) : ∀ x j, zia (km2 σ) x j = if 229 ≤ x ∧ x < 231 then 0 else zia σ x j := zmk_ia (f := zia σ) (σ := km1 σ) (km1_n hn) (by decide) (km1_ia hn)
theorem km3_n (hn : zn σ = 229) : zn (km3 σ) = 232 := by show zn (km2 σ) + 1 = 232; rw [(km2_n hn)]
theorem km3_ia (hn : zn σ = 229) : ∀ x j, zia (km3 σ) x j = if 229 ≤ x ∧ x < 232 then 0 else zia σ x j := zmk_ia (f := zia σ) (σ := km2 σ) (km2_n hn) (by decide) (km2_ia hn)
theorem km4_n (hn : zn σ = 229) : zn (km4 σ) = 233 := by show zn (km3 σ) + 1 = 233; rw [(km3_n hn)]
theorem km4_ia (hn : zn σ = 229) : ∀ x j, zia (km4 σ) x j = if 229 ≤ x ∧ x < 233 then 0 else zia σ x j := zmk_ia (f := zia σ) (σ := km3 σ) (km3_n hn) (by decide) (km3_ia hn)
theorem km5_n (hn : zn σ = 229) : zn (km5 σ) = 234 := by show zn (km4 σ) + 1 = 234; rw [(km4_n hn)]
theorem km5_ia (hn : zn σ = 229) : ∀ x j, zia (km5 σ) x j = if 229 ≤ x ∧ x < 234 then 0 else zia σ x j := zmk_ia (f := zia σ) (σ := km4 σ) (km4_n hn) (by decide) (km4_ia hn)
theorem km6_n (hn : zn σ = 229) : zn (km6 σ) = 235 := by show zn (km5 σ) + 1 = 235; rw [(km5_n hn)]
theorem km6_ia (hn : zn σ = 229) : ∀ x j, zia (km6 σ) x j = if 229 ≤ x ∧ x < 235 then 0 else zia σ x j := zmk_ia (f := zia σ) (σ := km5 σ) (km5_n hn) (by decide) (km5_ia hn)
theorem km7_n (hn : zn σ = 229) : zn (km7 σ) = 236 := by show zn (km6 σ) + 1 = 236; rw [(km6_n hn)]
theorem km7_ia (hn : zn σ = 229) : ∀ x j, zia (km7 σ) x j = if 229 ≤ x ∧ x < 236 then 0 else zia σ x j := zmk_ia (f := zia σ) (σ := km6 σ) (km6_n hn) (by decide) (km6_ia hn)
theorem km8_n (hn : zn σ = 229) : zn (km8 σ) = 237 := by show zn (km7 σ) + 1 = 237; rw [(km7_n hn)]
theorem km8_ia (hn : zn σ = 229) : ∀ x j, zia (km8 σ) x j = if 229 ≤ x ∧ x < 237 then 0 else zia σ x j := zmk_ia (f := zia σ) (σ := km7 σ) (km7_n hn) (by decide) (km7_ia hn)
theorem km9_n (hn : zn σ = 229) : zn (km9 σ) = 238 := by show zn (km8 σ) + 1 = 238; rw [(km8_n hn)]
theorem km9_ia (hn : zn σ = 229) : ∀ x j, zia (km9 σ) x j = if 229 ≤ x ∧ x < 238 then 0 else zia σ x j := zmk_ia (f := zia σ) (σ := km8 σ) (km8_n hn) (by decide) (km8_ia hn)
theorem km10_n (hn : zn σ = 229) : zn (km10 σ) = 239 := by show zn (km9 σ) + 1 = 239; rw [(km9_n hn)]
theorem km10_ia (hn : zn σ = 229) : ∀ x j, zia (km10 σ) x j = if 229 ≤ x ∧ x < 239 then 0 else zia σ x j := zmk_ia (f := zia σ) (σ := km9 σ) (km9_n hn) (by decide) (km9_ia hn)
theorem km11_n (hn : zn σ = 229) : zn (km11 σ) = 240 := by show zn (km10 σ) + 1 = 240; rw [(km10_n hn)]
theorem km11_ia (hn : zn σ = 229) : ∀ x j, zia (km11 σ) x j = if 229 ≤ x ∧ x < 240 then 0 else zia σ x j := zmk_ia (f := zia σ) (σ := km10 σ) (km10_n hn) (by decide) (km10_ia hn)
theorem km12_n (hn : zn σ = 229) : zn (km12 σ) = 241 := by show zn (km11 σ) + 1 = 241; rw [(km11_n hn)]
theorem km12_ia (hn : zn σ = 229) : ∀ x j, zia (km12 σ) x j = if 229 ≤ x ∧ x < 241 then 0 else zia σ x j := zmk_ia (f := zia σ) (σ := km11 σ) (km11_n hn) (by decide) (km11_ia hn)
theorem km13_n (hn : zn σ = 229) : zn (km13 σ) = 242 := by show zn (km12 σ) + 1 = 242; rw [(km12_n hn)]
theorem km13_ia (hn : zn σ = 229) : ∀ x j, zia (km13 σ) x j = if 229 ≤ x ∧ x < 242 then 0 else zia σ x j := zmk_ia (f := zia σ) (σ := km12 σ) (km12_n hn) (by decide) (km12_ia hn)
theorem km14_n (hn : zn σ = 229) : zn (km14 σ) = 242 := by
  show zn (zsi (km13 σ) 228 ((26 : Nat) : Int) (-1)) = 242
  rw [zn_si]
  exact km13_n hn
theorem km14_ia (hn : zn σ = 229) : ∀ x j, zia (km14 σ) x j = if 229 ≤ x ∧ x < 242 then 0 else (if x = 228 ∧ j = 26 then -1 else zia σ x j) := fun x j => by
  show zia (zsi (km13 σ) 228 ((26 : Nat) : Int) (-1)) x j = _
  by_cases c : x = 228 ∧ j = 26
  · rw [if_pos c, if_neg (by omega), c.1, c.2]
    exact zsi_same _ _ _ _
  · rw [if_neg c, zia_si, if_neg (show ¬ (x = 228 ∧ j = ((26 : Nat) : Int)) from c)]
    exact km13_ia hn x j
theorem km15_n (hn : zn σ = 229) : zn (km15 σ) = 243 := by show zn (km14 σ) + 1 = 243; rw [(km14_n hn)]
theorem km15_ia (hn : zn σ = 229) : ∀ x j, zia (km15 σ) x j = if 229 ≤ x ∧ x < 243 then 0 else (if x = 228 ∧ j = 26 then -1 else zia σ x j) := znw_ia (f := (fun x j => if x = 228 ∧ j = 26 then -1 else zia σ x j)) (σ := km14 σ) (km14_n hn) (by decide) (km14_ia hn)
theorem km16_n (hn : zn σ = 229) : zn (km16 σ) = 243 := by
  show zn (zsr (km15 σ) 242 0 (some (zbg + 30))) = 243
  rw [zn_sr]
  exact km15_n hn
theorem km16_ia (hn : zn σ = 229) : ∀ x j, zia (km16 σ) x j = if 229 ≤ x ∧ x < 243 then 0 else (if x = 228 ∧ j = 26 then -1 else zia σ x j) := fun x j => by
  show zia (zsr (km15 σ) 242 0 (some (zbg + 30))) x j = _
  rw [zia_sr]
  exact km15_ia hn x j
theorem km17_n (hn : zn σ = 229) : zn (km17 σ) = 243 := by
  show zn (zsr (km16 σ) 242 1 (some (zbg + 31))) = 243
  rw [zn_sr]
  exact km16_n hn
theorem km17_ia (hn : zn σ = 229) : ∀ x j, zia (km17 σ) x j = if 229 ≤ x ∧ x < 243 then 0 else (if x = 228 ∧ j = 26 then -1 else zia σ x j) := fun x j => by
  show zia (zsr (km16 σ) 242 1 (some (zbg + 31))) x j = _
  rw [zia_sr]
  exact km16_ia hn x j
theorem km18_n (hn : zn σ = 229) : zn (km18 σ) = 243 := by
  show zn (zsr (km17 σ) 242 2 (some (zbg + 32))) = 243
  rw [zn_sr]
  exact km17_n hn
theorem km18_ia (hn : zn σ = 229) : ∀ x j, zia (km18 σ) x j = if 229 ≤ x ∧ x < 243 then 0 else (if x = 228 ∧ j = 26 then -1 else zia σ x j) := fun x j => by
  show zia (zsr (km17 σ) 242 2 (some (zbg + 32))) x j = _
  rw [zia_sr]
  exact km17_ia hn x j
theorem km19_n (hn : zn σ = 229) : zn (km19 σ) = 243 := by
  show zn (zsr (km18 σ) 242 3 (some (zbg + 33))) = 243
  rw [zn_sr]
  exact km18_n hn
theorem km19_ia (hn : zn σ = 229) : ∀ x j, zia (km19 σ) x j = if 229 ≤ x ∧ x < 243 then 0 else (if x = 228 ∧ j = 26 then -1 else zia σ x j) := fun x j => by
  show zia (zsr (km18 σ) 242 3 (some (zbg + 33))) x j = _
  rw [zia_sr]
  exact km18_ia hn x j
theorem km20_n (hn : zn σ = 229) : zn (km20 σ) = 243 := by
  show zn (zsr (km19 σ) 242 4 (some (zbg + 34))) = 243
  rw [zn_sr]
  exact km19_n hn
theorem km20_ia (hn : zn σ = 229) : ∀ x j, zia (km20 σ) x j = if 229 ≤ x ∧ x < 243 then 0 else (if x = 228 ∧ j = 26 then -1 else zia σ x j) := fun x j => by
  show zia (zsr (km19 σ) 242 4 (some (zbg + 34))) x j = _
  rw [zia_sr]
  exact km19_ia hn x j
theorem km21_n (hn : zn σ = 229) : zn (km21 σ) = 243 := by
  show zn (zsr (km20 σ) 242 5 (some (zbg + 35))) = 243
  rw [zn_sr]
  exact km20_n hn
theorem km21_ia (hn : zn σ = 229) : ∀ x j, zia (km21 σ) x j = if 229 ≤ x ∧ x < 243 then 0 else (if x = 228 ∧ j = 26 then -1 else zia σ x j) := fun x j => by
  show zia (zsr (km20 σ) 242 5 (some (zbg + 35))) x j = _
  rw [zia_sr]
  exact km20_ia hn x j
theorem km22_n (hn : zn σ = 229) : zn (km22 σ) = 243 := by
  show zn (zsr (km21 σ) 242 6 (some (zbg + 36))) = 243
  rw [zn_sr]
  exact km21_n hn
theorem km22_ia (hn : zn σ = 229) : ∀ x j, zia (km22 σ) x j = if 229 ≤ x ∧ x < 243 then 0 else (if x = 228 ∧ j = 26 then -1 else zia σ x j) := fun x j => by
  show zia (zsr (km21 σ) 242 6 (some (zbg + 36))) x j = _
  rw [zia_sr]
  exact km21_ia hn x j
theorem km23_n (hn : zn σ = 229) : zn (km23 σ) = 243 := by
  show zn (zsr (km22 σ) 242 7 (some (zbg + 37))) = 243
  rw [zn_sr]
  exact km22_n hn
theorem km23_ia (hn : zn σ = 229) : ∀ x j, zia (km23 σ) x j = if 229 ≤ x ∧ x < 243 then 0 else (if x = 228 ∧ j = 26 then -1 else zia σ x j) := fun x j => by
  show zia (zsr (km22 σ) 242 7 (some (zbg + 37))) x j = _
  rw [zia_sr]
  exact km22_ia hn x j
theorem km24_n (hn : zn σ = 229) : zn (km24 σ) = 243 := by
  show zn (zsr (km23 σ) 242 8 (some (zbg + 38))) = 243
  rw [zn_sr]
  exact km23_n hn
theorem km24_ia (hn : zn σ = 229) : ∀ x j, zia (km24 σ) x j = if 229 ≤ x ∧ x < 243 then 0 else (if x = 228 ∧ j = 26 then -1 else zia σ x j) := fun x j => by
  show zia (zsr (km23 σ) 242 8 (some (zbg + 38))) x j = _
  rw [zia_sr]
  exact km23_ia hn x j
theorem km25_n (hn : zn σ = 229) : zn (km25 σ) = 243 := by
  show zn (zsr (km24 σ) 228 ((28 : Nat) : Int) (some 242)) = 243
  rw [zn_sr]
  exact km24_n hn
theorem km25_ia (hn : zn σ = 229) : ∀ x j, zia (km25 σ) x j = if 229 ≤ x ∧ x < 243 then 0 else (if x = 228 ∧ j = 26 then -1 else zia σ x j) := fun x j => by
  show zia (zsr (km24 σ) 228 ((28 : Nat) : Int) (some 242)) x j = _
  rw [zia_sr]
  exact km24_ia hn x j
theorem km26_n (hn : zn σ = 229) : zn (km26 σ) = 244 := by show zn (km25 σ) + 1 = 244; rw [(km25_n hn)]
theorem km26_ia (hn : zn σ = 229) : ∀ x j, zia (km26 σ) x j = if 229 ≤ x ∧ x < 244 then 0 else (if x = 228 ∧ j = 26 then -1 else zia σ x j) := zmk_ia (f := (fun x j => if x = 228 ∧ j = 26 then -1 else zia σ x j)) (σ := km25 σ) (km25_n hn) (by decide) (km25_ia hn)
theorem km27_n (hn : zn σ = 229) : zn (km27 σ) = 245 := by show zn (km26 σ) + 1 = 245; rw [(km26_n hn)]
theorem km27_ia (hn : zn σ = 229) : ∀ x j, zia (km27 σ) x j = if 229 ≤ x ∧ x < 245 then 0 else (if x = 228 ∧ j = 26 then -1 else zia σ x j) := zmk_ia (f := (fun x j => if x = 228 ∧ j = 26 then -1 else zia σ x j)) (σ := km26 σ) (km26_n hn) (by decide) (km26_ia hn)
theorem kmF_c : zcs (km27 σ) = zcs σ + 16 := rfl
theorem kmF_s : zss (km27 σ) = zss σ + 312 + 312 + 312 + 3120 + 70 + 10 + 4 + 4 + 4 + 4 + 10 + 40 + 700 + 9 + 200 + 200 := rfl
theorem zkC_b : zcs zkC ≤ 228 ∧ zss zkC ≤ 9000 := by decide +kernel
theorem zkC_3 : ∀ j ∈ List.range 16, zia zkC 3 (j : Int) = 0 := by decide +kernel
theorem zkC_i : (zia zkC (B0 100) 0 = 0 ∧ zia zkC (B0 100) 3 = 0 ∧ zia zkC (B0 100) 7 = 0) ∧ (zia zkC (B0 600) 1 = 0 ∧ zia zkC (B0 600) 2 = 0 ∧ zia zkC (B0 600) 4 = 0) ∧ zia zkC (B0 408) 0 = 0 ∧ (zia zkC (B0 0) 1 = 0 ∧ zia zkC (B0 0) 2 = -1) ∧ zia zkC 2 1 = 0 ∧ zia zkC 2 3 = 0 := by decide +kernel
theorem zN_0 : ldN (zcz fun _ => 0) = fun _ => 0 := funext fun j => by
  unfold ldN
  split
  · rename_i q
    exact zcz_0 q
  · rfl
/-- the numbers before any load -/
theorem cR_0 {N : Int → Int} (e : N = fun _ => 0) (a : zia σ (B0 100) 0 = 0 ∧ zia σ (B0 100) 3 = 0 ∧ zia σ (B0 100) 7 = 0) (z : cZs σ B0s) : cR N σ B0 := by
  subst e
  obtain ⟨⟨z0, z1, z2⟩, -, -, -, -, z5⟩ := z
  have e5 : B0s 2214 = B0 214 := B0s_at (by decide)
  have e0 : B0s 2200 = B0 200 := B0s_at (by decide)
  rw [e0] at z0 z1 z2
  rw [e5] at z5
  refine ⟨?_, ⟨⟨z0, z1, z2⟩, fun h a b => absurd b (by show ¬ h < 0; omega), fun h a b => absurd b (by show ¬ h < 0; omega), fun h a b => absurd b (by show ¬ h < 0; omega), fun k a b => z5 k a b, fun q w a b c => absurd b (by show ¬ q < min 20 0; omega)⟩, fun s dd a b => absurd b (by show ¬ s < 0; omega)⟩
  unfold cRc
  refine ⟨a, ?_⟩
  repeat' (first | exact fun h a b => absurd b (by show ¬ h < 0; omega) | refine ⟨?_, ?_⟩)
theorem lI_0 (h1 : zFr (zRg 200 216 B0) zkC σ1) (hz : cZs σ1 B0s) (h2 : zFr (fun h j => h = 229 ∧ 0 ≤ j ∧ j < 312) (km27 (znw σ1 0 12 32)) σ2) (h3 : zia σ2 229 = zcz (zia (km27 (znw σ1 0 12 32)) 229)) : lI 0 (znw σ2 4 1 1) := by
  have s1 : zSh σ1 zkC := (zSh.rf zkC).fr h1
  have n1 : zn σ1 = 228 := s1.1.trans zkC_n
  have hn : zn (znw σ1 0 12 32) = 229 := by rw [zn_nw, n1]
  have sM : zSh σ2 zkM := (km27_s s1.nw).fr h2
  have n2 : zn σ2 = 245 := sM.1.trans zkM_n
  have sL : zSh (znw σ2 4 1 1) zkL := sM.nw
  have ia := km27_ia hn
  -- cells of old
  have eO : ∀ x j, x < 228 → zia (znw σ2 4 1 1) x j = zia σ1 x j := fun x j hx => by
    rw [zia_nw, if_neg (by omega), h2.2.2.2.2.2 x j (by omega), ia, if_neg (by omega), if_neg (by omega), zia_nw, if_neg (by omega)]
  have eC : ∀ k j, B0 k < 228 → ¬ (200 ≤ k ∧ k < 216) → zia (znw σ2 4 1 1) (B0 k) j = zia zkC (B0 k) j := fun k j hx hk => (eO _ j hx).trans (h1.2.2.2.2.2 _ j fun q => by
    obtain ⟨y, a, b, e⟩ := q
    have := B0_inj _ _ e
    omega)
  have e22 : ∀ x j, x < 228 → (∀ k, x ≠ B0 k) → zia (znw σ2 4 1 1) x j = zia zkC x j := fun x j hx hk => (eO _ j hx).trans (h1.2.2.2.2.2 _ j fun q => by
    obtain ⟨y, a, b, e⟩ := q
    exact hk y e)
  have eM : ∀ j, zia (znw σ2 4 1 1) 228 j = if j = 26 then -1 else 0 := fun j => by
    rw [zia_nw, if_neg (by omega), h2.2.2.2.2.2 228 j (by omega), ia, if_neg (by omega), zia_nw, if_pos n1.symm]
    by_cases c : j = 26
    · rw [if_pos ⟨rfl, c⟩, if_pos c]
    · rw [if_neg (fun q => c q.2), if_neg c]
  have eA : ∀ x j, 229 ≤ x → x < 245 → zia (znw σ2 4 1 1) x j = 0 := fun x j a b => by
    rw [zia_nw, if_neg (by omega)]
    by_cases c : x = 229
    · subst c
      rw [h3]
      unfold zcz
      split
      · rfl
      · rw [ia, if_pos (by omega)]
    · rw [h2.2.2.2.2.2 x j (fun q => c q.1), ia, if_pos (by omega)]
  have hz3 : cZs (znw σ2 4 1 1) B0s := by
    have e : ∀ k, 2200 ≤ k → k < 2216 → B0s k < 228 → zia (znw σ2 4 1 1) (B0s k) = zia σ1 (B0s k) := fun k a b c => funext fun j => eO _ j c
    unfold cZs at hz ⊢
    rw [e 2200 (by decide) (by decide) (by decide +kernel), e 2205 (by decide) (by decide) (by decide +kernel), e 2206 (by decide) (by decide) (by decide +kernel), e 2207 (by decide) (by decide) (by decide +kernel), e 2208 (by decide) (by decide) (by decide +kernel), e 2209 (by decide) (by decide) (by decide +kernel), e 2210 (by decide) (by decide) (by decide +kernel), e 2212 (by decide) (by decide) (by decide +kernel), e 2213 (by decide) (by decide) (by decide +kernel), e 2214 (by decide) (by decide) (by decide +kernel)]
    exact hz
  obtain ⟨⟨i1, i2, i3⟩, ⟨i4, i5, i6⟩, i7, ⟨i8, i9⟩, i10, i11⟩ := zkC_i
  have hS : lSh (znw σ2 4 1 1) := ⟨by rw [zn_nw, n2]; decide, fun h _ => congrFun sL.2.1 h, fun h j _ _ => congrFun (congrFun sL.2.2 h) j⟩
  have a1 : A0 1 = 230 := by decide +kernel
  have a0 : A0 0 = 229 := by decide +kernel
  refine ⟨(ldN (zcz fun _ => 0), fun _ _ => 0, 0), fun _ => 0, 0, 0, -1, fun _ => 0, [], 3, 16, ⟨hS, ?_, Or.inl rfl⟩, ⟨?_, ⟨⟨by decide, by decide⟩, rfl, fun j j0 j1 => absurd j1 (by omega)⟩, ⟨by decide, fun x hx => nomatch hx⟩⟩, ⟨⟨⟨cR_0 zN_0 ⟨(eC 100 _ (by decide +kernel) (by decide)).trans i1, (eC 100 _ (by decide +kernel) (by decide)).trans i2, (eC 100 _ (by decide +kernel) (by decide)).trans i3⟩ hz3, 0, (eC 600 _ (by decide +kernel) (by decide)).trans i4, (eC 600 _ (by decide +kernel) (by decide)).trans i5, ⟨by decide, by decide, by show (0 : Int) ≤ 0; decide, by show (0 : Int) ≤ 10; decide⟩, fun k k0 k1 => absurd k1 (by show ¬ k < 0; omega)⟩, (eC 408 _ (by decide +kernel) (by decide)).trans i7, (eC 600 _ (by decide +kernel) (by decide)).trans i6, fun q => absurd rfl q⟩, ⟨(eC 0 _ (by decide +kernel) (by decide)).trans i8, (eC 0 _ (by decide +kernel) (by decide)).trans i9, fun j j0 j1 => absurd j1 (by omega)⟩, ?_⟩, ⟨⟨⟨funext fun j => ?_, (eM _).trans (if_neg (by decide)), fun k k0 k1 => absurd k1 (by show ¬ k < 0; omega)⟩, (eM _).trans (if_neg (by decide)), fun q => absurd rfl q, fun j => ?_⟩, ⟨(eM _).trans (if_neg (by decide)), (eM _).trans (if_pos rfl), fun j j0 j1 => absurd j1 (by omega)⟩, (eM _).trans (if_neg (by decide)), fun j hj => absurd hj (Nat.not_lt_zero _)⟩⟩
  · have q1 : zcs (znw σ2 4 1 1) = zcs σ2 + 1 := rfl
    have q2 : zss (znw σ2 4 1 1) = zss σ2 + 1 := rfl
    have q3 : zcs σ2 = zcs σ1 + 1 + 16 := h2.2.2.2.1.trans (kmF_c (σ := znw σ1 0 12 32))
    have q4 : zss σ2 = zss σ1 + 32 + 312 + 312 + 312 + 3120 + 70 + 10 + 4 + 4 + 4 + 4 + 10 + 40 + 700 + 9 + 200 + 200 := h2.2.2.2.2.1.trans (kmF_s (σ := znw σ1 0 12 32))
    have q5 : zcs σ1 = zcs zkC := h1.2.2.2.1
    have q6 : zss σ1 = zss zkC := h1.2.2.2.2.1
    have q7 := zkC_b
    have q8 : zn (znw σ2 4 1 1) = zn σ2 + 1 := rfl
    unfold lB
    omega
  · exact lD_ld (ldV_0 fun _ => zrg0) (by decide)
  · rw [B0_11]
    refine ⟨hS.kd (by decide +kernel), hS.lt (by decide), ?_, hS.lt (by decide), hS.kd (by decide +kernel), ?_, ?_, by decide, Or.inl rfl, fun j hj => absurd hj (Nat.not_lt_zero _), fun j j0 j1 => ?_⟩
    · rw [sL.2.2]; decide +kernel
    · exact (eC 11 _ (by decide +kernel) (by decide)).trans (by rw [B0_11]; exact i10)
    · exact (eC 11 _ (by decide +kernel) (by decide)).trans (by rw [B0_11]; exact i11)
    · have q := zkC_3 j.toNat (List.mem_range.mpr (by omega))
      rw [Int.toNat_of_nonneg j0] at q
      rw [e22 3 j (by decide) (fun k e => B0_vv k e.symm), q]
      decide
  · show zia (znw σ2 4 1 1) (A0 0) j = ldN (zcz fun _ => 0) j
    rw [zN_0, a0]
    exact eA 229 j (by decide) (by decide)
  · rw [a1, eA 230 j (by decide) (by decide)]
    exact zrg0
theorem lI_up (h : lI n σ) (hn : n < 512) : lI (n + 1) σ := by
  obtain ⟨S, Sn, sf, cc, ep, t, l, vv, cap, ⟨hs, hb, hv⟩, ⟨hD, hT, hL⟩, hc, hm⟩ := h
  exact ⟨S, Sn, sf, cc, ep, t, l, vv, cap, ⟨hs, hb.up hn, hv⟩, ⟨hD.up (by push_cast; omega), hT, hL⟩, hc, hm⟩
theorem lI_b (h : lI n σ) : zcs σ ≤ 601024 ∧ zss σ ≤ 7293034 := by
  obtain ⟨S, Sn, sf, cc, ep, t, l, vv, cap, ⟨hs, hb, hv⟩, -⟩ := h
  unfold lB at hb
  omega
/-- how the law ends -/
def lQ1 (r : zRes) (σ : zMem) : Prop := r = .inl (some (zI 1)) ∧ zcs σ ≤ 601024 ∧ zss σ ≤ 7293034
theorem lw_loop (hg : lGd G L xs) (hJ : lI 0 σ) : zF G mL_law (d + 40) 23 (lLs (6 * ((0 : Nat) : Int))) [] σ lQ1 := by
  have hX := hg.2.2.2.2.1
  have hL := hX.2.2
  refine zF_while (X := Nat) (fun x => 600 - x) (fun x σ2 => x ≤ 512 ∧ lI x σ2) (fun x => lLs (6 * ((x : Nat) : Int))) ?_ 0 σ ⟨by decide, hJ⟩
  intro n σ2 ⟨hn0, J⟩ ih
  show zF G mL_law (d + 40) 23 [(0, zR (zbg + 500)), (1, zR (B0 0)), (2, zR 228), (3, zR 245), (4, zI (6 * ((n : Nat) : Int)))] [] σ2 _
  refine zF_iload 25 dL_law_23 rfl rfl ?_
  refine zF_aload_n 26 dL_law_25 rfl rfl ?_
  refine zF_slen 27 dL_law_26 rfl hX ?_
  refine zF_bipush 29 dL_law_27 rfl (by decide) ?_
  refine zF_isub 30 dL_law_29 rfl ?_
  refine zF_icmp_gt 2292 33 dL_law_30 rfl rfl (by constructor <;> omega) (by constructor <;> omega) (fun c => ?_) (fun c => ?_)
  · refine zF_iconst 2293 dL_law_2292 rfl ?_
    exact zF_zreturn dL_law_2293 rfl (Or.inr rfl) ⟨rfl, lI_b J⟩
  have hn : n < 512 := by omega
  have i0 : 0 ≤ 6 * ((n : Nat) : Int) := by omega
  have i6 : 6 * ((n : Nat) : Int) + 6 ≤ (L : Int) := by omega
  have K : ∀ σ1, lI (n + 1) σ1 → zF G mL_law (d + 40) 2286 (lLs (6 * ((n : Nat) : Int))) [] σ1 lQ1 := fun σ1 h1 => by
    refine zF_iinc 2289 (z' := 6 * ((n + 1 : Nat) : Int)) (ls' := [(4, zI (6 * ((n + 1 : Nat) : Int))), (0, zR (zbg + 500)), (1, zR (B0 0)), (2, zR 228), (3, zR 245)]) dL_law_2286 rfl rfl (by push_cast; omega) (by decide) rfl ?_
    refine zF_goto 23 dL_law_2289 rfl ?_
    exact zF_locs (ls' := lLs (6 * ((n + 1 : Nat) : Int))) ⟨rfl, rfl, rfl, rfl, rfl, trivial⟩ (ih (n + 1) σ1 (by omega) ⟨by omega, h1⟩)
  refine zF_aload_n 34 dL_law_33 rfl rfl ?_
  refine zF_iload 36 dL_law_34 rfl rfl ?_
  refine zF_sload 37 dL_law_36 rfl hX (by omega) (by omega) ?_
  refine zF_bipush 39 dL_law_37 rfl (by decide) ?_
  refine zF_iand 40 dL_law_39 rfl ?_
  have hv : zrg (Int32.ofInt (xs (6 * ((n : Nat) : Int)).toNat).toInt &&& Int32.ofInt 63).toInt := zrg_x _
  generalize (Int32.ofInt (xs (6 * ((n : Nat) : Int)).toNat).toInt &&& Int32.ofInt 63).toInt = w at hv ⊢
  rcases Decidable.em (w = 0) with e | e0
  · refine zF_swIn 212 dL_law_40 hv (by omega) (by omega) (by rw [e]; rfl) rfl ?_
    exact lw_feed hg i0 i6 hn J K
  rcases Decidable.em (w = 1) with e | e1
  · refine zF_swIn 285 dL_law_40 hv (by omega) (by omega) (by rw [e]; rfl) rfl ?_
    exact lw_load hg i0 i6 hn J K
  rcases Decidable.em (w = 2) with e | e2
  · refine zF_swIn 341 dL_law_40 hv (by omega) (by omega) (by rw [e]; rfl) rfl ?_
    exact lw_errorPosition hg i0 i6 hn J K
  rcases Decidable.em (w = 3) with e | e3
  · refine zF_swIn 354 dL_law_40 hv (by omega) (by omega) (by rw [e]; rfl) rfl ?_
    exact lw_size hg i0 i6 hn J K
  rcases Decidable.em (w = 4) with e | e4
  · refine zF_swIn 410 dL_law_40 hv (by omega) (by omega) (by rw [e]; rfl) rfl ?_
    exact lw_house hg i0 i6 hn J K
  rcases Decidable.em (w = 5) with e | e5
  · refine zF_swIn 478 dL_law_40 hv (by omega) (by omega) (by rw [e]; rfl) rfl ?_
    exact lw_screen hg i0 i6 hn J K
  rcases Decidable.em (w = 6) with e | e6
  · refine zF_swIn 546 dL_law_40 hv (by omega) (by omega) (by rw [e]; rfl) rfl ?_
    exact lw_film hg i0 i6 hn J K
  rcases Decidable.em (w = 7) with e | e7
  · refine zF_swIn 614 dL_law_40 hv (by omega) (by omega) (by rw [e]; rfl) rfl ?_
    exact lw_term hg i0 i6 hn J K
  rcases Decidable.em (w = 8) with e | e8
  · refine zF_swIn 682 dL_law_40 hv (by omega) (by omega) (by rw [e]; rfl) rfl ?_
    exact lw_prints hg i0 i6 hn J K
  rcases Decidable.em (w = 9) with e | e9
  · refine zF_swIn 750 dL_law_40 hv (by omega) (by omega) (by rw [e]; rfl) rfl ?_
    exact lw_shown hg i0 i6 hn J K
  rcases Decidable.em (w = 10) with e | e10
  · refine zF_swIn 818 dL_law_40 hv (by omega) (by omega) (by rw [e]; rfl) rfl ?_
    exact lw_visitors hg i0 i6 hn J K
  rcases Decidable.em (w = 11) with e | e11
  · refine zF_swIn 886 dL_law_40 hv (by omega) (by omega) (by rw [e]; rfl) rfl ?_
    exact lw_share hg i0 i6 hn J K
  rcases Decidable.em (w = 12) with e | e12
  · refine zF_swIn 954 dL_law_40 hv (by omega) (by omega) (by rw [e]; rfl) rfl ?_
    exact lw_run hg i0 i6 hn J K
  rcases Decidable.em (w = 13) with e | e13
  · refine zF_swIn 1022 dL_law_40 hv (by omega) (by omega) (by rw [e]; rfl) rfl ?_
    exact lw_wouldHold hg i0 i6 hn J K
  rcases Decidable.em (w = 14) with e | e14
  · refine zF_swIn 1085 dL_law_40 hv (by omega) (by omega) (by rw [e]; rfl) rfl ?_
    exact lw_forecast hg i0 i6 hn J K
  rcases Decidable.em (w = 15) with e | e15
  · refine zF_swIn 1153 dL_law_40 hv (by omega) (by omega) (by rw [e]; rfl) rfl ?_
    exact lw_chart hg i0 i6 hn J K
  rcases Decidable.em (w = 16) with e | e16
  · refine zF_swIn 1209 dL_law_40 hv (by omega) (by omega) (by rw [e]; rfl) rfl ?_
    exact lw_bestGain hg i0 i6 hn J K
  rcases Decidable.em (w = 17) with e | e17
  · refine zF_swIn 1265 dL_law_40 hv (by omega) (by omega) (by rw [e]; rfl) rfl ?_
    exact lw_bestFilm hg i0 i6 hn J K
  rcases Decidable.em (w = 18) with e | e18
  · refine zF_swIn 1321 dL_law_40 hv (by omega) (by omega) (by rw [e]; rfl) rfl ?_
    exact lw_bestMove hg i0 i6 hn J K
  rcases Decidable.em (w = 19) with e | e19
  · refine zF_swIn 1334 dL_law_40 hv (by omega) (by omega) (by rw [e]; rfl) rfl ?_
    exact lw_total hg i0 i6 hn J K
  rcases Decidable.em (w = 20) with e | e20
  · refine zF_swIn 1390 dL_law_40 hv (by omega) (by omega) (by rw [e]; rfl) rfl ?_
    exact lw_closed hg i0 i6 hn J K
  rcases Decidable.em (w = 21) with e | e21
  · refine zF_swIn 1458 dL_law_40 hv (by omega) (by omega) (by rw [e]; rfl) rfl ?_
    exact lw_meanTakings hg i0 i6 hn J K
  rcases Decidable.em (w = 22) with e | e22
  · refine zF_swIn 1499 dL_law_40 hv (by omega) (by omega) (by rw [e]; rfl) rfl ?_
    exact lw_filled hg i0 i6 hn J K
  rcases Decidable.em (w = 23) with e | e23
  · refine zF_swIn 1542 dL_law_40 hv (by omega) (by omega) (by rw [e]; rfl) rfl ?_
    exact lw_book hg i0 i6 hn J K
  rcases Decidable.em (w = 24) with e | e24
  · refine zF_swIn 1610 dL_law_40 hv (by omega) (by omega) (by rw [e]; rfl) rfl ?_
    exact lw_split hg i0 i6 hn J K
  rcases Decidable.em (w = 25) with e | e25
  · refine zF_swIn 1702 dL_law_40 hv (by omega) (by omega) (by rw [e]; rfl) rfl ?_
    exact lw_empty hg i0 i6 hn J K
  rcases Decidable.em (w = 26) with e | e26
  · refine zF_swIn 1758 dL_law_40 hv (by omega) (by omega) (by rw [e]; rfl) rfl ?_
    exact lw_move hg i0 i6 hn J K
  rcases Decidable.em (w = 27) with e | e27
  · refine zF_swIn 1838 dL_law_40 hv (by omega) (by omega) (by rw [e]; rfl) rfl ?_
    exact lw_close hg i0 i6 hn J K
  rcases Decidable.em (w = 28) with e | e28
  · refine zF_swIn 1851 dL_law_40 hv (by omega) (by omega) (by rw [e]; rfl) rfl ?_
    exact lw_program hg i0 i6 hn J K
  rcases Decidable.em (w = 29) with e | e29
  · refine zF_swIn 1907 dL_law_40 hv (by omega) (by omega) (by rw [e]; rfl) rfl ?_
    exact lw_setHoldover hg i0 i6 hn J K
  rcases Decidable.em (w = 30) with e | e30
  · refine zF_swIn 1975 dL_law_40 hv (by omega) (by omega) (by rw [e]; rfl) rfl ?_
    exact lw_setRent hg i0 i6 hn J K
  rcases Decidable.em (w = 31) with e | e31
  · refine zF_swIn 2043 dL_law_40 hv (by omega) (by omega) (by rw [e]; rfl) rfl ?_
    exact lw_setFee hg i0 i6 hn J K
  rcases Decidable.em (w = 32) with e | e32
  · refine zF_swIn 2099 dL_law_40 hv (by omega) (by omega) (by rw [e]; rfl) rfl ?_
    exact lw_format hg i0 i6 hn J K
  rcases Decidable.em (w = 33) with e | e33
  · refine zF_swIn 2155 dL_law_40 hv (by omega) (by omega) (by rw [e]; rfl) rfl ?_
    exact lw_formattedByte hg i0 i6 hn J K
  rcases Decidable.em (w = 34) with e | e34
  · refine zF_swIn 2180 dL_law_40 hv (by omega) (by omega) (by rw [e]; rfl) rfl ?_
    exact lw_undoCount hg i0 i6 hn J K
  rcases Decidable.em (w = 35) with e | e35
  · refine zF_swIn 2193 dL_law_40 hv (by omega) (by omega) (by rw [e]; rfl) rfl ?_
    exact lw_undo hg i0 i6 hn J K
  rcases Decidable.em (w = 36) with e | e36
  · refine zF_swIn 2206 dL_law_40 hv (by omega) (by omega) (by rw [e]; rfl) rfl ?_
    exact lw_saveSnapshot hg i0 i6 hn J K
  rcases Decidable.em (w = 37) with e | e37
  · refine zF_swIn 2217 dL_law_40 hv (by omega) (by omega) (by rw [e]; rfl) rfl ?_
    exact lw_restoreSnapshot hg i0 i6 hn J K
  rcases Decidable.em (w = 38) with e | e38
  · refine zF_swIn 2230 dL_law_40 hv (by omega) (by omega) (by rw [e]; rfl) rfl ?_
    exact lw_query hg i0 i6 hn J K
  refine zF_swOut 2286 dL_law_40 hv (by omega) rfl ?_
  exact K σ2 (lI_up J hn)
theorem zE0_n : zn zE0 = 0 := rfl
theorem zk1_n : zn zk1 = 1 := by decide +kernel
theorem lw_start (hg : lGd G L xs) (hAO : zAO G) : zF G mL_law (d + 40) 0 [(0, zR (zbg + 500))] [] zE0 lQ1 := by
  obtain ⟨hGd, hG, hOD, hOP, hX, hNx⟩ := id hg
  refine zF_new 3 (ci := 11) (N := 13) dL_law_0 rfl zmCX11 rfl (by decide +kernel) (zwl_q (by exact (⟨zwO, trivial⟩ : _ ∧ True))) (zwl_m (by exact trivial)) ?_
  rw [zE0_n]
  show zF G mL_law (d + 40) 3 [(0, zR (zbg + 500))] [zR 0] zk1 _
  refine zF_dup 4 dL_law_3 rfl rfl ?_
  refine zF_callIn 7 (d2 := d + 3) (as := []) (rest := [zR 0]) dL_law_4 rfl kLX11_init rfl iX11_init (by omega) rfl rfl (Nat.le_of_ble_eq_true rfl) ⟨zwO, trivial⟩ ⟨zwR (show 0 < zn zk1 from by rw [zk1_n]; decide), trivial⟩ (zE.mono (zt_X11_init hG hAO) fun r σ1 hh => ⟨hh.1, ?_⟩)
  obtain ⟨-, h1, hz⟩ := hh
  have s1 : zSh σ1 zkC := (zSh.rf zkC).fr h1
  have n1 : zn σ1 = 228 := s1.1.trans zkC_n
  refine zF_astore_n 8 (ls' := [(1, zR 0), (0, zR (zbg + 500))]) dL_law_7 rfl (by decide) rfl ?_
  refine zF_new 11 (ci := 12) (N := 32) dL_law_8 rfl zmCX12 rfl (by rw [n1]; decide) (zwl_q (by exact (⟨zwR (show 0 < zn σ1 from by rw [n1]; decide), zwO, trivial⟩ : _ ∧ _ ∧ True))) (zwl_m (by exact trivial)) ?_
  rw [n1]
  refine zF_dup 12 dL_law_11 rfl rfl ?_
  have n1b : zn (znw σ1 0 12 32) = 229 := by rw [zn_nw, n1]
  refine zF_callIn 15 (d2 := d + 1) (as := []) (rest := [zR 228]) dL_law_12 rfl kLX12_init rfl iX12_init (by omega) rfl rfl (Nat.le_of_ble_eq_true rfl) ⟨zwR (show 0 < zn (znw σ1 0 12 32) from by rw [n1b]; decide), zwO, trivial⟩ ⟨zwR (show 228 < zn (znw σ1 0 12 32) from by rw [n1b]; decide), trivial⟩ (zE.mono (zt_X12_init (d := d) hG hAO s1.nw) fun r σ2 hh => ⟨hh.1, ?_⟩)
  obtain ⟨-, h2, h3⟩ := hh
  have sM : zSh σ2 zkM := (km27_s s1.nw).fr h2
  have n2 : zn σ2 = 245 := sM.1.trans zkM_n
  refine zF_astore_n 16 (ls' := [(2, zR 228), (1, zR 0), (0, zR (zbg + 500))]) dL_law_15 rfl (by decide) rfl ?_
  refine zF_iconst 17 dL_law_16 rfl ?_
  refine zF_newarray 19 dL_law_17 rfl (Or.inr (Or.inr (Or.inr ⟨rfl, rfl⟩))) (zi8 64 rfl rfl) (by decide) (by decide) (by rw [n2]; decide) (zwl_q (by exact (⟨zwR (show 228 < zn σ2 from by rw [n2]; decide), zwR (show 0 < zn σ2 from by rw [n2]; decide), zwO, trivial⟩ : _ ∧ _ ∧ _ ∧ True))) (zwl_m (by exact trivial)) ?_
  rw [n2]
  show zF G mL_law (d + 40) 19 [(2, zR 228), (1, zR 0), (0, zR (zbg + 500))] [zR 245] (znw σ2 4 1 1) _
  refine zF_astore_n 20 (ls' := [(3, zR 245), (2, zR 228), (1, zR 0), (0, zR (zbg + 500))]) dL_law_19 rfl (by decide) rfl ?_
  refine zF_iconst 21 dL_law_20 rfl ?_
  refine zF_istore 23 (ls' := [(4, zI 0), (3, zR 245), (2, zR 228), (1, zR 0), (0, zR (zbg + 500))]) dL_law_21 rfl (by decide) rfl ?_
  have b0 : B0 0 = 0 := by decide +kernel
  refine zF_locs (ls' := lLs (6 * ((0 : Nat) : Int))) ⟨rfl, by rw [b0]; rfl, rfl, rfl, rfl, trivial⟩ (lw_loop hg (lI_0 h1 hz h2 h3))
end ZLW

/-! the law's own chain: its cells, what they say of the numbers -/
section ZE1
variable {G : zG} {M : zMeth} {d pc : Nat} {ls : List (Nat × zV)} {st : List zV} {σ : zMem} {Q : zRes → zMem → Prop} {E : Nat → Nat} {N : Int → Int}
def eF : List (Nat × Nat × Nat) := [(6, 6, 4), (7, 6, 10), (8, 6, 6), (9, 6, 6), (10, 6, 4), (11, 1, 4), (12, 6, 60)]
def eOb (σ : zMem) (E : Nat → Nat) : Prop := zkd σ (E 0) = (0, 12) ∧ E 0 < zn σ ∧ ∀ k t n, (k, t, n) ∈ eF → zra σ (E 0) ((k : Nat) : Int) = some (E k) ∧ E k < zn σ ∧ zkd σ (E k) = (t, n)
/-- the rows of an array: their places and their length -/
def eRw (σ : zMem) (E : Nat → Nat) (k m : Nat) (n : Int) : Prop := ∀ i : Int, 0 ≤ i → i < n → zra σ (E k) i = some (E (100 * k + i.toNat)) ∧ E (100 * k + i.toNat) < zn σ ∧ zkd σ (E (100 * k + i.toNat)) = (1, m)
def eSh (n0 n1 n2 : Int) (σ : zMem) (E : Nat → Nat) : Prop := eOb σ E ∧ eRw σ E 6 2 n0 ∧ eRw σ E 7 8 n1 ∧ eRw σ E 8 10 n2 ∧ eRw σ E 9 5 6 ∧ eRw σ E 10 6 4 ∧ ∀ i j, E i = E j → i = j
def eC (N : Int → Int) (σ : zMem) (E : Nat → Nat) : Prop :=
  (zia σ (E 0) ((0 : Nat) : Int) = N 0 ∧ zia σ (E 0) ((1 : Nat) : Int) = N 1 ∧ zia σ (E 0) ((2 : Nat) : Int) = N 2 ∧ zia σ (E 0) ((3 : Nat) : Int) = N 3 ∧ zia σ (E 0) ((4 : Nat) : Int) = N 4 ∧ zia σ (E 0) ((5 : Nat) : Int) = N 5) ∧
  (∀ h k, 0 ≤ h → h < N 0 → 0 ≤ k → k < 2 → zia σ (E (600 + h.toNat)) k = mH N h k) ∧
  (∀ s k, 0 ≤ s → s < N 1 → 0 ≤ k → k < 8 → zia σ (E (700 + s.toNat)) k = mS N s k) ∧
  (∀ f k, 0 ≤ f → f < N 2 → (0 ≤ k ∧ k < 4 + mF N f 3) ∨ k = 8 ∨ k = 9 → zia σ (E (800 + f.toNat)) k = mF N f k) ∧
  (∀ f p, 0 ≤ f → f < N 2 → -1 ≤ p → p < N 0 → zia σ (E (900 + f.toNat)) (p + 1) = mP N f p) ∧
  (∀ h f, 0 ≤ h → h < N 0 → 0 ≤ f → f < N 2 → zia σ (E (1000 + h.toNat)) f = mR N h f) ∧
  ∀ k, 0 ≤ k → k < 4 → zia σ (E 11) k = N (208 + k)
def eO (N : Int → Int) (σ : zMem) (E : Nat → Nat) : Prop := eSh (N 0) (N 1) (N 2) σ E ∧ eC N σ E
theorem eO.k0 (h : eO N σ E) : zkd σ (E 0) = (0, 12) := h.1.1.1
theorem eO.l0 (h : eO N σ E) : E 0 < zn σ := h.1.1.2.1
theorem eO.f (h : eO N σ E) : ∀ k t n, (k, t, n) ∈ eF → zra σ (E 0) ((k : Nat) : Int) = some (E k) ∧ E k < zn σ ∧ zkd σ (E k) = (t, n) := h.1.1.2.2
theorem eO.r6 (h : eO N σ E) : ∀ i : Int, 0 ≤ i → i < N 0 → zra σ (E 6) i = some (E (600 + i.toNat)) ∧ E (600 + i.toNat) < zn σ ∧ zkd σ (E (600 + i.toNat)) = (1, 2) := h.1.2.1
theorem eO.r7 (h : eO N σ E) : ∀ i : Int, 0 ≤ i → i < N 1 → zra σ (E 7) i = some (E (700 + i.toNat)) ∧ E (700 + i.toNat) < zn σ ∧ zkd σ (E (700 + i.toNat)) = (1, 8) := h.1.2.2.1
theorem eO.r8 (h : eO N σ E) : ∀ i : Int, 0 ≤ i → i < N 2 → zra σ (E 8) i = some (E (800 + i.toNat)) ∧ E (800 + i.toNat) < zn σ ∧ zkd σ (E (800 + i.toNat)) = (1, 10) := h.1.2.2.2.1
theorem eO.r9 (h : eO N σ E) : ∀ i : Int, 0 ≤ i → i < 6 → zra σ (E 9) i = some (E (900 + i.toNat)) ∧ E (900 + i.toNat) < zn σ ∧ zkd σ (E (900 + i.toNat)) = (1, 5) := h.1.2.2.2.2.1
theorem eO.r10 (h : eO N σ E) : ∀ i : Int, 0 ≤ i → i < 4 → zra σ (E 10) i = some (E (1000 + i.toNat)) ∧ E (1000 + i.toNat) < zn σ ∧ zkd σ (E (1000 + i.toNat)) = (1, 6) := h.1.2.2.2.2.2.1
theorem eO.inj (h : eO N σ E) : ∀ i j, E i = E j → i = j := h.1.2.2.2.2.2.2
theorem eO.i0 (h : eO N σ E) : zia σ (E 0) ((0 : Nat) : Int) = N 0 := h.2.1.1
theorem eO.i1 (h : eO N σ E) : zia σ (E 0) ((1 : Nat) : Int) = N 1 := h.2.1.2.1
theorem eO.i2 (h : eO N σ E) : zia σ (E 0) ((2 : Nat) : Int) = N 2 := h.2.1.2.2.1
theorem eO.i3 (h : eO N σ E) : zia σ (E 0) ((3 : Nat) : Int) = N 3 := h.2.1.2.2.2.1
theorem eO.i4 (h : eO N σ E) : zia σ (E 0) ((4 : Nat) : Int) = N 4 := h.2.1.2.2.2.2.1
theorem eO.i5 (h : eO N σ E) : zia σ (E 0) ((5 : Nat) : Int) = N 5 := h.2.1.2.2.2.2.2
theorem eO.c6 (h : eO N σ E) : ∀ h k, 0 ≤ h → h < N 0 → 0 ≤ k → k < 2 → zia σ (E (600 + h.toNat)) k = mH N h k := h.2.2.1
theorem eO.c7 (h : eO N σ E) : ∀ s k, 0 ≤ s → s < N 1 → 0 ≤ k → k < 8 → zia σ (E (700 + s.toNat)) k = mS N s k := h.2.2.2.1
theorem eO.c8q (h : eO N σ E) : ∀ f k, 0 ≤ f → f < N 2 → (0 ≤ k ∧ k < 4 + mF N f 3) ∨ k = 8 ∨ k = 9 → zia σ (E (800 + f.toNat)) k = mF N f k := h.2.2.2.2.1
theorem eO.c8 (h : eO N σ E) : ∀ f k, 0 ≤ f → f < N 2 → 0 ≤ k → k < 4 + mF N f 3 → zia σ (E (800 + f.toNat)) k = mF N f k := fun f k a b c e => h.c8q f k a b (Or.inl ⟨c, e⟩)
theorem eO.c9 (h : eO N σ E) : ∀ f p, 0 ≤ f → f < N 2 → -1 ≤ p → p < N 0 → zia σ (E (900 + f.toNat)) (p + 1) = mP N f p := h.2.2.2.2.2.1
theorem eO.c9q (h : eO N σ E) : ∀ f p, 0 ≤ f → f < N 2 → 0 ≤ p → p ≤ N 0 → zia σ (E (900 + f.toNat)) p = mP N f (p - 1) := fun f p a b c e => by
  have := h.c9 f (p - 1) a b (by omega) (by omega)
  rw [show p - 1 + 1 = p by omega] at this
  exact this
theorem eO.c10 (h : eO N σ E) : ∀ h f, 0 ≤ h → h < N 0 → 0 ≤ f → f < N 2 → zia σ (E (1000 + h.toNat)) f = mR N h f := h.2.2.2.2.2.2.1
theorem eO.c11 (h : eO N σ E) : ∀ k, 0 ≤ k → k < 4 → zia σ (E 11) k = N (208 + k) := h.2.2.2.2.2.2.2
theorem zt_X12_shown {s day : Int} (hE : eO N σ E) (hV : mV N) (s0 : 0 ≤ s) (s1 : s < N 1) (zd : zrg day) : zP1 G mX12_shown d [zR (E 0), zI s, zI day] σ (mSh N s day) := by
  refine zE_of rfl (by simp [zcat]) (Nat.le_of_ble_eq_true rfl) ?_
  show zF G mX12_shown d 0 [(0, zR (E 0)), (1, zI s), (2, zI day)] [] σ _
  have hb := hV.b
  have hn := hV.n
  have hs := hV.s s s0 (by omega)
  refine zF_aload_n 1 dX12_shown_0 rfl rfl ?_
  refine zF_getR 4 dX12_shown_1 rfl gX12_15 hE.k0 hE.l0 (hE.f 7 6 10 (by decide)).1 ?_
  refine zF_iload_n 5 dX12_shown_4 rfl rfl ?_
  refine zF_aaldA 6 dX12_shown_5 rfl (hE.f 7 6 10 (by decide)).2.2 (hE.f 7 6 10 (by decide)).2.1 (by omega) (by omega) (hE.r7 _ (by omega) (by omega)).1 ?_
  refine zF_iconst 7 dX12_shown_6 rfl ?_
  refine zF_iaload 8 dX12_shown_7 rfl (hE.r7 _ (by omega) (by omega)).2.2 (hE.r7 _ (by omega) (by omega)).2.1 (by omega) (by omega) (hE.c7 _ _ (by omega) (by omega) (by omega) (by omega)) ?_
  refine zF_if_lt 35 11 dX12_shown_8 rfl rfl (by first | decide | assumption | exact hb _ | exact mSh_rg hb _ _ | exact zb_rg _ | (constructor <;> omega)) (fun c1 => ?_) (fun c1 => ?_)
  · refine zF_aload_n 36 dX12_shown_35 rfl rfl ?_
    refine zF_getR 39 dX12_shown_36 rfl gX12_15 hE.k0 hE.l0 (hE.f 7 6 10 (by decide)).1 ?_
    refine zF_iload_n 40 dX12_shown_39 rfl rfl ?_
    refine zF_aaldA 41 dX12_shown_40 rfl (hE.f 7 6 10 (by decide)).2.2 (hE.f 7 6 10 (by decide)).2.1 (by omega) (by omega) (hE.r7 _ (by omega) (by omega)).1 ?_
    refine zF_iconst 42 dX12_shown_41 rfl ?_
    refine zF_iaload 43 dX12_shown_42 rfl (hE.r7 _ (by omega) (by omega)).2.2 (hE.r7 _ (by omega) (by omega)).2.1 (by omega) (by omega) (hE.c7 _ _ (by omega) (by omega) (by omega) (by omega)) ?_
    exact zF_iretP dX12_shown_43 rfl (by first | exact (if_pos (by omega)).symm | exact (if_neg (by omega)).symm)
  · refine zF_iload_n 12 dX12_shown_11 rfl rfl ?_
    refine zF_aload_n 13 dX12_shown_12 rfl rfl ?_
    refine zF_getR 16 dX12_shown_13 rfl gX12_15 hE.k0 hE.l0 (hE.f 7 6 10 (by decide)).1 ?_
    refine zF_iload_n 17 dX12_shown_16 rfl rfl ?_
    refine zF_aaldA 18 dX12_shown_17 rfl (hE.f 7 6 10 (by decide)).2.2 (hE.f 7 6 10 (by decide)).2.1 (by omega) (by omega) (hE.r7 _ (by omega) (by omega)).1 ?_
    refine zF_bipush 20 dX12_shown_18 rfl (by decide) ?_
    refine zF_iaload 21 dX12_shown_20 rfl (hE.r7 _ (by omega) (by omega)).2.2 (hE.r7 _ (by omega) (by omega)).2.1 (by omega) (by omega) (hE.c7 _ _ (by omega) (by omega) (by omega) (by omega)) ?_
    refine zF_icmp_lt 35 24 dX12_shown_21 rfl rfl (by first | decide | assumption | exact hb _ | exact mSh_rg hb _ _ | exact zb_rg _ | (constructor <;> omega)) (by first | decide | assumption | exact hb _ | exact mSh_rg hb _ _ | exact zb_rg _ | (constructor <;> omega)) (fun c2 => ?_) (fun c2 => ?_)
    · refine zF_aload_n 36 dX12_shown_35 rfl rfl ?_
      refine zF_getR 39 dX12_shown_36 rfl gX12_15 hE.k0 hE.l0 (hE.f 7 6 10 (by decide)).1 ?_
      refine zF_iload_n 40 dX12_shown_39 rfl rfl ?_
      refine zF_aaldA 41 dX12_shown_40 rfl (hE.f 7 6 10 (by decide)).2.2 (hE.f 7 6 10 (by decide)).2.1 (by omega) (by omega) (hE.r7 _ (by omega) (by omega)).1 ?_
      refine zF_iconst 42 dX12_shown_41 rfl ?_
      refine zF_iaload 43 dX12_shown_42 rfl (hE.r7 _ (by omega) (by omega)).2.2 (hE.r7 _ (by omega) (by omega)).2.1 (by omega) (by omega) (hE.c7 _ _ (by omega) (by omega) (by omega) (by omega)) ?_
      exact zF_iretP dX12_shown_43 rfl (by first | exact (if_pos (by omega)).symm | exact (if_neg (by omega)).symm)
    · refine zF_aload_n 25 dX12_shown_24 rfl rfl ?_
      refine zF_getR 28 dX12_shown_25 rfl gX12_15 hE.k0 hE.l0 (hE.f 7 6 10 (by decide)).1 ?_
      refine zF_iload_n 29 dX12_shown_28 rfl rfl ?_
      refine zF_aaldA 30 dX12_shown_29 rfl (hE.f 7 6 10 (by decide)).2.2 (hE.f 7 6 10 (by decide)).2.1 (by omega) (by omega) (hE.r7 _ (by omega) (by omega)).1 ?_
      refine zF_iconst 31 dX12_shown_30 rfl ?_
      refine zF_iaload 32 dX12_shown_31 rfl (hE.r7 _ (by omega) (by omega)).2.2 (hE.r7 _ (by omega) (by omega)).2.1 (by omega) (by omega) (hE.c7 _ _ (by omega) (by omega) (by omega) (by omega)) ?_
      refine zF_goto 43 dX12_shown_32 rfl ?_
      exact zF_iretP dX12_shown_43 rfl (by first | exact (if_pos (by omega)).symm | exact (if_neg (by omega)).symm)
theorem zt_X12_room {s : Int} (hE : eO N σ E) (hV : mV N) (s0 : 0 ≤ s) (s1 : s < N 1) : zP1 G mX12_room d [zR (E 0), zI s] σ (mCap N s) := by
  refine zE_of rfl (by simp [zcat]) (Nat.le_of_ble_eq_true rfl) ?_
  show zF G mX12_room d 0 [(0, zR (E 0)), (1, zI s)] [] σ _
  have hb := hV.b
  have hn := hV.n
  have hs := hV.s s s0 (by omega)
  refine zF_aload_n 1 dX12_room_0 rfl rfl ?_
  refine zF_getR 4 dX12_room_1 rfl gX12_15 hE.k0 hE.l0 (hE.f 7 6 10 (by decide)).1 ?_
  refine zF_iload_n 5 dX12_room_4 rfl rfl ?_
  refine zF_aaldA 6 dX12_room_5 rfl (hE.f 7 6 10 (by decide)).2.2 (hE.f 7 6 10 (by decide)).2.1 (by omega) (by omega) (hE.r7 _ (by omega) (by omega)).1 ?_
  refine zF_iconst 7 dX12_room_6 rfl ?_
  refine zF_iaload 8 dX12_room_7 rfl (hE.r7 _ (by omega) (by omega)).2.2 (hE.r7 _ (by omega) (by omega)).2.1 (by omega) (by omega) (hE.c7 _ _ (by omega) (by omega) (by omega) (by omega)) ?_
  refine zF_aload_n 9 dX12_room_8 rfl rfl ?_
  refine zF_getR 12 dX12_room_9 rfl gX12_15 hE.k0 hE.l0 (hE.f 7 6 10 (by decide)).1 ?_
  refine zF_iload_n 13 dX12_room_12 rfl rfl ?_
  refine zF_aaldA 14 dX12_room_13 rfl (hE.f 7 6 10 (by decide)).2.2 (hE.f 7 6 10 (by decide)).2.1 (by omega) (by omega) (hE.r7 _ (by omega) (by omega)).1 ?_
  refine zF_iconst 15 dX12_room_14 rfl ?_
  refine zF_iaload 16 dX12_room_15 rfl (hE.r7 _ (by omega) (by omega)).2.2 (hE.r7 _ (by omega) (by omega)).2.1 (by omega) (by omega) (hE.c7 _ _ (by omega) (by omega) (by omega) (by omega)) ?_
  refine zF_imul 17 dX12_room_16 rfl ?_
  exact zF_iretP dX12_room_17 rfl (rfl)
theorem zt_X12_price {s : Int} (hE : eO N σ E) (hV : mV N) (hW : mW N) (s0 : 0 ≤ s) (s1 : s < N 1) : zP1 G mX12_price d [zR (E 0), zI s] σ (mPrice N s) := by
  refine zE_of rfl (by simp [zcat]) (Nat.le_of_ble_eq_true rfl) ?_
  show zF G mX12_price d 0 [(0, zR (E 0)), (1, zI s)] [] σ _
  have hb := hV.b
  have hn := hV.n
  have hs := hV.s s s0 (by omega)
  have hw := hW s s0 s1
  refine zF_aload_n 1 dX12_price_0 rfl rfl ?_
  refine zF_getR 4 dX12_price_1 rfl gX12_9 hE.k0 hE.l0 (hE.f 6 6 4 (by decide)).1 ?_
  refine zF_aload_n 5 dX12_price_4 rfl rfl ?_
  refine zF_getR 8 dX12_price_5 rfl gX12_15 hE.k0 hE.l0 (hE.f 7 6 10 (by decide)).1 ?_
  refine zF_iload_n 9 dX12_price_8 rfl rfl ?_
  refine zF_aaldA 10 dX12_price_9 rfl (hE.f 7 6 10 (by decide)).2.2 (hE.f 7 6 10 (by decide)).2.1 (by omega) (by omega) (hE.r7 _ (by omega) (by omega)).1 ?_
  refine zF_iconst 11 dX12_price_10 rfl ?_
  refine zF_iaload 12 dX12_price_11 rfl (hE.r7 _ (by omega) (by omega)).2.2 (hE.r7 _ (by omega) (by omega)).2.1 (by omega) (by omega) (hE.c7 _ _ (by omega) (by omega) (by omega) (by omega)) ?_
  refine zF_aaldA 13 dX12_price_12 rfl (hE.f 6 6 4 (by decide)).2.2 (hE.f 6 6 4 (by decide)).2.1 (by omega) (by omega) (hE.r6 _ (by omega) (by omega)).1 ?_
  refine zF_iconst 14 dX12_price_13 rfl ?_
  refine zF_iaload 15 dX12_price_14 rfl (hE.r6 _ (by omega) (by omega)).2.2 (hE.r6 _ (by omega) (by omega)).2.1 (by omega) (by omega) (hE.c6 _ _ (by omega) (by omega) (by omega) (by omega)) ?_
  exact zF_iretP dX12_price_15 rfl (rfl)
theorem zt_X12_age {f : Int} (hE : eO N σ E) (hV : mV N) (f0 : 0 ≤ f) (f1 : f < N 2) : zP1 G mX12_age d [zR (E 0), zI f] σ (mAge N f) := by
  refine zE_of rfl (by simp [zcat]) (Nat.le_of_ble_eq_true rfl) ?_
  show zF G mX12_age d 0 [(0, zR (E 0)), (1, zI f)] [] σ _
  have hb := hV.b
  have hn := hV.n
  have hf := hV.f f f0 (by omega)
  have hf3 := hf.2.2.2.2.2.2.2.2.1 f1
  refine zF_aload_n 1 dX12_age_0 rfl rfl ?_
  refine zF_getR 4 dX12_age_1 rfl gX12_18 hE.k0 hE.l0 (hE.f 8 6 6 (by decide)).1 ?_
  refine zF_iload_n 5 dX12_age_4 rfl rfl ?_
  refine zF_aaldA 6 dX12_age_5 rfl (hE.f 8 6 6 (by decide)).2.2 (hE.f 8 6 6 (by decide)).2.1 (by omega) (by omega) (hE.r8 _ (by omega) (by omega)).1 ?_
  refine zF_bipush 8 dX12_age_6 rfl (by decide) ?_
  refine zF_iaload 9 dX12_age_8 rfl (hE.r8 _ (by omega) (by omega)).2.2 (hE.r8 _ (by omega) (by omega)).2.1 (by omega) (by omega) (hE.c8q _ _ (by omega) (by omega) (Or.inr (Or.inl rfl))) ?_
  refine zF_if_ge 16 12 dX12_age_9 rfl rfl (by first | decide | assumption | exact hb _ | exact mSh_rg hb _ _ | exact zb_rg _ | (constructor <;> omega)) (fun c1 => ?_) (fun c1 => ?_)
  · refine zF_aload_n 17 dX12_age_16 rfl rfl ?_
    refine zF_getI 20 dX12_age_17 rfl gX12_45 (by decide) (by decide) hE.k0 hE.l0 hE.i3 ?_
    refine zF_aload_n 21 dX12_age_20 rfl rfl ?_
    refine zF_getR 24 dX12_age_21 rfl gX12_18 hE.k0 hE.l0 (hE.f 8 6 6 (by decide)).1 ?_
    refine zF_iload_n 25 dX12_age_24 rfl rfl ?_
    refine zF_aaldA 26 dX12_age_25 rfl (hE.f 8 6 6 (by decide)).2.2 (hE.f 8 6 6 (by decide)).2.1 (by omega) (by omega) (hE.r8 _ (by omega) (by omega)).1 ?_
    refine zF_bipush 28 dX12_age_26 rfl (by decide) ?_
    refine zF_iaload 29 dX12_age_28 rfl (hE.r8 _ (by omega) (by omega)).2.2 (hE.r8 _ (by omega) (by omega)).2.1 (by omega) (by omega) (hE.c8q _ _ (by omega) (by omega) (Or.inr (Or.inl rfl))) ?_
    refine zF_isub 30 dX12_age_29 rfl ?_
    exact zF_iretP dX12_age_30 rfl (by first | exact (if_pos (by omega)).symm | exact (if_neg (by omega)).symm)
  · refine zF_iconst 13 dX12_age_12 rfl ?_
    refine zF_goto 30 dX12_age_13 rfl ?_
    exact zF_iretP dX12_age_30 rfl (by first | exact (if_pos (by omega)).symm | exact (if_neg (by omega)).symm)
theorem zt_X12_daily {f : Int} (hE : eO N σ E) (hV : mV N) (f0 : 0 ≤ f) (f1 : f < N 2) : zP1 G mX12_daily (d + 1) [zR (E 0), zI f] σ (mDem N f) := by
  refine zE_of rfl (by simp [zcat]) (Nat.le_of_ble_eq_true rfl) ?_
  show zF G mX12_daily (d + 1) 0 [(0, zR (E 0)), (1, zI f)] [] σ _
  have hb := hV.b
  have hn := hV.n
  have hf := hV.f f f0 (by omega)
  have hf3 := hf.2.2.2.2.2.2.2.2.1 f1
  have ha := mAge_b hV f0 (by omega)
  have hd := mDem_b hV f0 (by omega)
  refine zF_aload_n 1 dX12_daily_0 rfl rfl ?_
  refine zF_getR 4 dX12_daily_1 rfl gX12_18 hE.k0 hE.l0 (hE.f 8 6 6 (by decide)).1 ?_
  refine zF_iload_n 5 dX12_daily_4 rfl rfl ?_
  refine zF_aaldA 6 dX12_daily_5 rfl (hE.f 8 6 6 (by decide)).2.2 (hE.f 8 6 6 (by decide)).2.1 (by omega) (by omega) (hE.r8 _ (by omega) (by omega)).1 ?_
  refine zF_iconst 7 dX12_daily_6 rfl ?_
  refine zF_iaload 8 dX12_daily_7 rfl (hE.r8 _ (by omega) (by omega)).2.2 (hE.r8 _ (by omega) (by omega)).2.1 (by omega) (by omega) (hE.c8 _ _ (by omega) (by omega) (by omega) (by omega)) ?_
  refine zF_istore_n 9 (ls' := [(2, zI (mF N f 0)), (0, zR (E 0)), (1, zI f)]) dX12_daily_8 rfl (by decide) rfl ?_
  refine zF_iconst 10 dX12_daily_9 rfl ?_
  refine zF_istore_n 11 (ls' := [(3, zI 0), (2, zI (mF N f 0)), (0, zR (E 0)), (1, zI f)]) dX12_daily_10 rfl (by decide) rfl ?_
  refine zF_locs (ls' := (fun (i : Nat) => [(3, zI (i : Int)), (2, zI (mDemN N f i)), (0, zR (E 0)), (1, zI f)]) 0) ⟨zlI rfl (by first | rfl | omega | (push_cast; omega) | exact congrArg (_ + ·) (zbT (by assumption)) | exact congrArg (_ + ·) (zbF (by assumption)) | exact congrArg (_ + ·) (zbT (by omega)) | exact congrArg (_ + ·) (zbF (by omega)) | exact congrArg (_ + ·) (if_pos (by omega)).symm | exact congrArg (_ + ·) (if_neg (by omega)).symm | exact (if_pos (by omega)).symm | exact (if_neg (by omega)).symm | exact zsub_s (if_pos (by omega)).symm | exact zsub_s0 (if_neg (by omega)).symm | exact zadd0 (if_neg (by omega)).symm | exact zadd0 (zbF (by omega)) | exact (Int.sub_zero _).symm), zlI rfl (by first | rfl | omega | (push_cast; omega) | exact congrArg (_ + ·) (zbT (by assumption)) | exact congrArg (_ + ·) (zbF (by assumption)) | exact congrArg (_ + ·) (zbT (by omega)) | exact congrArg (_ + ·) (zbF (by omega)) | exact congrArg (_ + ·) (if_pos (by omega)).symm | exact congrArg (_ + ·) (if_neg (by omega)).symm | exact (if_pos (by omega)).symm | exact (if_neg (by omega)).symm | exact zsub_s (if_pos (by omega)).symm | exact zsub_s0 (if_neg (by omega)).symm | exact zadd0 (if_neg (by omega)).symm | exact zadd0 (zbF (by omega)) | exact (Int.sub_zero _).symm), rfl, rfl, trivial⟩ ?_
  refine zF_loop (n := (mAge N f).toNat) (fun (i : Nat) => [(3, zI (i : Int)), (2, zI (mDemN N f i)), (0, zR (E 0)), (1, zI f)]) (fun _ => σ) (fun i hi ih11 => ?_) ?_
  · show zF G mX12_daily (d + 1) 11 [(3, zI (i : Int)), (2, zI (mDemN N f i)), (0, zR (E 0)), (1, zI f)] [] σ _
    have hdi := hd i
    have q0 := mDem_p hV f0 (by omega : f < 6) i
    refine zF_iload_n 12 dX12_daily_11 rfl rfl ?_
    refine zF_aload_n 13 dX12_daily_12 rfl rfl ?_
    refine zF_iload_n 14 dX12_daily_13 rfl rfl ?_
    refine zF_callVi 17 (d2 := d) (as := [zI f]) dX12_daily_14 rfl kX12_58 iX12_age (ci := 12) rfl eX12_age (Nat.le_refl _) hE.k0 hE.l0 rfl rfl (Nat.le_of_ble_eq_true rfl) (zt_X12_age hE hV (by omega) (by omega)) ?_
    refine zF_icmp_ge 40 20 dX12_daily_17 rfl rfl (by first | decide | assumption | exact hb _ | exact mSh_rg hb _ _ | exact zb_rg _ | (constructor <;> omega)) (by first | decide | assumption | exact hb _ | exact mSh_rg hb _ _ | exact zb_rg _ | (constructor <;> omega)) (fun c1 => ?_) (fun c1 => ?_)
    · exact absurd c1 (by omega)
    · refine zF_iload_n 21 dX12_daily_20 rfl rfl ?_
      refine zF_aload_n 22 dX12_daily_21 rfl rfl ?_
      refine zF_getR 25 dX12_daily_22 rfl gX12_18 hE.k0 hE.l0 (hE.f 8 6 6 (by decide)).1 ?_
      refine zF_iload_n 26 dX12_daily_25 rfl rfl ?_
      refine zF_aaldA 27 dX12_daily_26 rfl (hE.f 8 6 6 (by decide)).2.2 (hE.f 8 6 6 (by decide)).2.1 (by omega) (by omega) (hE.r8 _ (by omega) (by omega)).1 ?_
      refine zF_iconst 28 dX12_daily_27 rfl ?_
      refine zF_iaload 29 dX12_daily_28 rfl (hE.r8 _ (by omega) (by omega)).2.2 (hE.r8 _ (by omega) (by omega)).2.1 (by omega) (by omega) (hE.c8 _ _ (by omega) (by omega) (by omega) (by omega)) ?_
      refine zF_imul 30 dX12_daily_29 rfl ?_
      refine zF_bipush 32 dX12_daily_30 rfl (by decide) ?_
      refine zF_idiv 33 dX12_daily_32 rfl (by omega) (by omega) (by omega) (by omega) ?_
      refine zF_istore_n 34 (ls' := [(2, zI (((mDemN N f i) * (mF N f 1)) / 100)), (3, zI (i : Int)), (0, zR (E 0)), (1, zI f)]) dX12_daily_33 rfl (by decide) rfl ?_
      refine zF_iinc 37 (ls' := [(3, zI ((i : Int) + 1)), (2, zI (((mDemN N f i) * (mF N f 1)) / 100)), (0, zR (E 0)), (1, zI f)]) dX12_daily_34 rfl rfl rfl (by decide) rfl ?_
      refine zF_goto 11 dX12_daily_37 rfl ?_
      exact zF_locs (ls' := [(3, zI ((i + 1 : Nat) : Int)), (2, zI (mDemN N f (i + 1))), (0, zR (E 0)), (1, zI f)]) ⟨zlI rfl (by first | rfl | omega | (push_cast; omega) | exact congrArg (_ + ·) (zbT (by assumption)) | exact congrArg (_ + ·) (zbF (by assumption)) | exact congrArg (_ + ·) (zbT (by omega)) | exact congrArg (_ + ·) (zbF (by omega)) | exact congrArg (_ + ·) (if_pos (by omega)).symm | exact congrArg (_ + ·) (if_neg (by omega)).symm | exact (if_pos (by omega)).symm | exact (if_neg (by omega)).symm | exact zsub_s (if_pos (by omega)).symm | exact zsub_s0 (if_neg (by omega)).symm | exact zadd0 (if_neg (by omega)).symm | exact zadd0 (zbF (by omega)) | exact (Int.sub_zero _).symm), zlI rfl (by first | rfl | omega | (push_cast; omega) | exact congrArg (_ + ·) (zbT (by assumption)) | exact congrArg (_ + ·) (zbF (by assumption)) | exact congrArg (_ + ·) (zbT (by omega)) | exact congrArg (_ + ·) (zbF (by omega)) | exact congrArg (_ + ·) (if_pos (by omega)).symm | exact congrArg (_ + ·) (if_neg (by omega)).symm | exact (if_pos (by omega)).symm | exact (if_neg (by omega)).symm | exact zsub_s (if_pos (by omega)).symm | exact zsub_s0 (if_neg (by omega)).symm | exact zadd0 (if_neg (by omega)).symm | exact zadd0 (zbF (by omega)) | exact (Int.sub_zero _).symm), rfl, rfl, trivial⟩ ih11
  · show zF G mX12_daily (d + 1) 11 [(3, zI (((mAge N f).toNat : Nat) : Int)), (2, zI (mDemN N f (mAge N f).toNat)), (0, zR (E 0)), (1, zI f)] [] σ _
    refine zF_iload_n 12 dX12_daily_11 rfl rfl ?_
    refine zF_aload_n 13 dX12_daily_12 rfl rfl ?_
    refine zF_iload_n 14 dX12_daily_13 rfl rfl ?_
    refine zF_callVi 17 (d2 := d) (as := [zI f]) dX12_daily_14 rfl kX12_58 iX12_age (ci := 12) rfl eX12_age (Nat.le_refl _) hE.k0 hE.l0 rfl rfl (Nat.le_of_ble_eq_true rfl) (zt_X12_age hE hV (by omega) (by omega)) ?_
    refine zF_icmp_ge 40 20 dX12_daily_17 rfl rfl (by first | decide | assumption | exact hb _ | exact mSh_rg hb _ _ | exact zb_rg _ | (constructor <;> omega)) (by first | decide | assumption | exact hb _ | exact mSh_rg hb _ _ | exact zb_rg _ | (constructor <;> omega)) (fun c2 => ?_) (fun c2 => ?_)
    · refine zF_iload_n 41 dX12_daily_40 rfl rfl ?_
      exact zF_iretP dX12_daily_41 rfl (rfl)
    · exact absurd c2 (by omega)
theorem gvS_b2 (hV : mV N) {s day : Int} (n : Nat) (hn : n ≤ nS N) : 0 ≤ gvS N s day n ∧ gvS N s day n ≤ 3000 * n := by
  induction n with
  | zero => exact ⟨Int.le_refl _, Int.le_refl _⟩
  | succ n ih =>
    have i := ih (by omega)
    have hs := nS_eq hV
    have c := mCap_b hV (s := (n : Int)) (by omega) (by omega)
    unfold gvS at i ⊢
    simp only [zsum]
    split <;> omega
theorem mSh_w (hV : mV N) (hW : mW N) {s : Int} (s0 : 0 ≤ s) (s1 : s < N 1) (day : Int) : -1 ≤ mSh N s day ∧ mSh N s day < N 2 := by
  have hn := hV.n
  have hs := hV.s s s0 (by omega)
  have hw := hW s s0 s1
  unfold mSh
  split <;> omega
/-- the guests of the week, laid in a row -/
def gq (N : Int → Int) : Int → Int := fun j => gv N (j / 7) (j % 7)
theorem gq_at (N : Int → Int) (s : Int) {day : Int} (d0 : 0 ≤ day) (d1 : day < 7) : gq N (7 * s + day) = gv N s day := by
  unfold gq
  rw [show (7 * s + day) / 7 = s by omega, show (7 * s + day) % 7 = day by omega]
theorem gq_ok (N : Int → Int) : gOK N (gq N) := fun s dd _ _ d0 d1 => gq_at N s d0 d1
theorem gg_v {gg : Int → Int} (hV : mV N) (hg : gOK N gg) : gV gg := fun j j0 j1 => by
  have e := hg (j / 7) (j % 7) (by omega) (by omega) (by omega) (by omega)
  rw [show 7 * (j / 7) + j % 7 = j by omega] at e
  rw [e]
  exact gv_b hV (by omega) (by omega) _
theorem zt_X12_guests {s day : Int} {gg : Int → Int} (hE : eO N σ E) (hV : mV N) (hW : mW N) (hg : gOK N gg) (s0 : 0 ≤ s) (s1 : s < N 1) (d0 : 0 ≤ day) (d1 : day < 7) : zP1 G mX12_guests (d + 2) [zR (E 0), zI s, zI day] σ (gg (7 * s + day)) := by
  refine zE_of rfl (by simp [zcat]) (Nat.le_of_ble_eq_true rfl) ?_
  show zF G mX12_guests (d + 2) 0 [(0, zR (E 0)), (1, zI s), (2, zI day)] [] σ _
  have hb := hV.b
  have hn := hV.n
  have hs := hV.s s s0 (by omega)
  have hw := hW s s0 s1
  have hh := nS_eq hV
  have hsh := mSh_w hV hW s0 s1 day
  have cs := mCap_b hV s0 (by omega)
  refine zF_aload_n 1 dX12_guests_0 rfl rfl ?_
  refine zF_iload_n 2 dX12_guests_1 rfl rfl ?_
  refine zF_iload_n 3 dX12_guests_2 rfl rfl ?_
  refine zF_callVi 6 (d2 := (d + 1)) (as := [zI s, zI day]) dX12_guests_3 rfl kX12_62 iX12_shown (ci := 12) rfl eX12_shown (Nat.le_refl _) hE.k0 hE.l0 rfl rfl (Nat.le_of_ble_eq_true rfl) (zt_X12_shown hE hV (by omega) (by omega) (by first | decide | assumption | exact hb _ | exact mSh_rg hb _ _ | (constructor <;> omega))) ?_
  refine zF_istore_n 7 (ls' := [(3, zI (mSh N s day)), (0, zR (E 0)), (1, zI s), (2, zI day)]) dX12_guests_6 rfl (by decide) rfl ?_
  refine zF_iload_n 8 dX12_guests_7 rfl rfl ?_
  refine zF_if_ge 13 11 dX12_guests_8 rfl rfl (by first | decide | assumption | exact hb _ | exact mSh_rg hb _ _ | (constructor <;> omega)) (fun c1 => ?_) (fun c1 => ?_)
  · refine zF_aload_n 14 dX12_guests_13 rfl rfl ?_
    refine zF_iload_n 15 dX12_guests_14 rfl rfl ?_
    refine zF_callVi 18 (d2 := (d + 1)) (as := [zI (mSh N s day)]) dX12_guests_15 rfl kX12_66 iX12_daily (ci := 12) rfl eX12_daily (Nat.le_refl _) hE.k0 hE.l0 rfl rfl (Nat.le_of_ble_eq_true rfl) (zt_X12_daily hE hV (by omega) (by omega)) ?_
    refine zF_istore 20 (ls' := [(4, zI (mDem N (mSh N s day))), (3, zI (mSh N s day)), (0, zR (E 0)), (1, zI s), (2, zI day)]) dX12_guests_18 rfl (by decide) rfl ?_
    refine zF_iconst 21 dX12_guests_20 rfl ?_
    refine zF_istore 23 (ls' := [(5, zI 0), (4, zI (mDem N (mSh N s day))), (3, zI (mSh N s day)), (0, zR (E 0)), (1, zI s), (2, zI day)]) dX12_guests_21 rfl (by decide) rfl ?_
    refine zF_locs (ls' := (fun (i : Nat) => [(5, zI (i : Int)), (4, zI (mDem N (mSh N s day) - gvS N s day i)), (3, zI (mSh N s day)), (0, zR (E 0)), (1, zI s), (2, zI day)]) 0) ⟨zlI rfl (by first | rfl | omega | (push_cast; omega) | exact congrArg (_ + ·) (zbT (by assumption)) | exact congrArg (_ + ·) (zbF (by assumption)) | exact congrArg (_ + ·) (zbT (by omega)) | exact congrArg (_ + ·) (zbF (by omega)) | exact congrArg (_ + ·) (if_pos (by omega)).symm | exact congrArg (_ + ·) (if_neg (by omega)).symm | exact (if_pos (by omega)).symm | exact (if_neg (by omega)).symm | exact zsub_s (if_pos (by omega)).symm | exact zsub_s0 (if_neg (by omega)).symm | exact zadd0 (if_neg (by omega)).symm | exact zadd0 (zbF (by omega)) | exact (Int.sub_zero _).symm), zlI rfl (by first | rfl | omega | (push_cast; omega) | exact congrArg (_ + ·) (zbT (by assumption)) | exact congrArg (_ + ·) (zbF (by assumption)) | exact congrArg (_ + ·) (zbT (by omega)) | exact congrArg (_ + ·) (zbF (by omega)) | exact congrArg (_ + ·) (if_pos (by omega)).symm | exact congrArg (_ + ·) (if_neg (by omega)).symm | exact (if_pos (by omega)).symm | exact (if_neg (by omega)).symm | exact zsub_s (if_pos (by omega)).symm | exact zsub_s0 (if_neg (by omega)).symm | exact zadd0 (if_neg (by omega)).symm | exact zadd0 (zbF (by omega)) | exact (Int.sub_zero _).symm), rfl, rfl, rfl, rfl, trivial⟩ ?_
    refine zF_loop (n := (nS N)) (fun (i : Nat) => [(5, zI (i : Int)), (4, zI (mDem N (mSh N s day) - gvS N s day i)), (3, zI (mSh N s day)), (0, zR (E 0)), (1, zI s), (2, zI day)]) (fun _ => σ) (fun i hi ih23 => ?_) ?_
    · show zF G mX12_guests (d + 2) 23 [(5, zI (i : Int)), (4, zI (mDem N (mSh N s day) - gvS N s day i)), (3, zI (mSh N s day)), (0, zR (E 0)), (1, zI s), (2, zI day)] [] σ _
      have hgi := gvS_b2 hV (s := s) (day := day) i (by omega)
      have hdm := mDem_b hV (f := mSh N s day) (by omega) (by omega) (mAge N (mSh N s day)).toNat
      have cap1 := mCap_b hV (s := (i : Int)) (by omega) (by omega)
      change 0 ≤ mDem N (mSh N s day) ∧ mDem N (mSh N s day) ≤ 9999 at hdm
      refine zF_iload 25 dX12_guests_23 rfl rfl ?_
      refine zF_aload_n 26 dX12_guests_25 rfl rfl ?_
      refine zF_getI 29 dX12_guests_26 rfl gX12_39 (by decide) (by decide) hE.k0 hE.l0 hE.i1 ?_
      refine zF_icmp_ge 123 32 dX12_guests_29 rfl rfl (by first | decide | assumption | exact hb _ | exact mSh_rg hb _ _ | (constructor <;> omega)) (by first | decide | assumption | exact hb _ | exact mSh_rg hb _ _ | (constructor <;> omega)) (fun c2 => ?_) (fun c2 => ?_)
      · exact absurd c2 (by omega)
      · refine zF_iload 34 dX12_guests_32 rfl rfl ?_
        refine zF_iload_n 35 dX12_guests_34 rfl rfl ?_
        refine zF_icmp_eq 117 38 dX12_guests_35 rfl rfl (by first | decide | assumption | exact hb _ | exact mSh_rg hb _ _ | (constructor <;> omega)) (by first | decide | assumption | exact hb _ | exact mSh_rg hb _ _ | (constructor <;> omega)) (fun c3 => ?_) (fun c3 => ?_)
        · refine zF_iinc 120 (ls' := [(5, zI ((i : Int) + 1)), (4, zI (mDem N (mSh N s day) - gvS N s day i)), (3, zI (mSh N s day)), (0, zR (E 0)), (1, zI s), (2, zI day)]) dX12_guests_117 rfl rfl rfl (by decide) rfl ?_
          refine zF_goto 23 dX12_guests_120 rfl ?_
          exact zF_locs (ls' := [(5, zI ((i + 1 : Nat) : Int)), (4, zI (mDem N (mSh N s day) - gvS N s day (i + 1))), (3, zI (mSh N s day)), (0, zR (E 0)), (1, zI s), (2, zI day)]) ⟨zlI rfl (by first | rfl | omega | (push_cast; omega) | exact congrArg (_ + ·) (zbT (by assumption)) | exact congrArg (_ + ·) (zbF (by assumption)) | exact congrArg (_ + ·) (zbT (by omega)) | exact congrArg (_ + ·) (zbF (by omega)) | exact congrArg (_ + ·) (if_pos (by omega)).symm | exact congrArg (_ + ·) (if_neg (by omega)).symm | exact (if_pos (by omega)).symm | exact (if_neg (by omega)).symm | exact zsub_s (if_pos (by omega)).symm | exact zsub_s0 (if_neg (by omega)).symm | exact zadd0 (if_neg (by omega)).symm | exact zadd0 (zbF (by omega)) | exact (Int.sub_zero _).symm), zlI rfl (by first | rfl | omega | (push_cast; omega) | exact congrArg (_ + ·) (zbT (by assumption)) | exact congrArg (_ + ·) (zbF (by assumption)) | exact congrArg (_ + ·) (zbT (by omega)) | exact congrArg (_ + ·) (zbF (by omega)) | exact congrArg (_ + ·) (if_pos (by omega)).symm | exact congrArg (_ + ·) (if_neg (by omega)).symm | exact (if_pos (by omega)).symm | exact (if_neg (by omega)).symm | exact zsub_s (if_pos (by omega)).symm | exact zsub_s0 (if_neg (by omega)).symm | exact zadd0 (if_neg (by omega)).symm | exact zadd0 (zbF (by omega)) | exact (Int.sub_zero _).symm), rfl, rfl, rfl, rfl, trivial⟩ ih23
        · refine zF_aload_n 39 dX12_guests_38 rfl rfl ?_
          refine zF_getR 42 dX12_guests_39 rfl gX12_15 hE.k0 hE.l0 (hE.f 7 6 10 (by decide)).1 ?_
          refine zF_iload 44 dX12_guests_42 rfl rfl ?_
          refine zF_aaldA 45 dX12_guests_44 rfl (hE.f 7 6 10 (by decide)).2.2 (hE.f 7 6 10 (by decide)).2.1 (by omega) (by omega) (hE.r7 _ (by omega) (by omega)).1 ?_
          refine zF_iconst 46 dX12_guests_45 rfl ?_
          refine zF_iaload 47 dX12_guests_46 rfl (hE.r7 _ (by omega) (by omega)).2.2 (hE.r7 _ (by omega) (by omega)).2.1 (by omega) (by omega) (hE.c7 _ _ (by omega) (by omega) (by omega) (by omega)) ?_
          refine zF_aload_n 48 dX12_guests_47 rfl rfl ?_
          refine zF_getR 51 dX12_guests_48 rfl gX12_15 hE.k0 hE.l0 (hE.f 7 6 10 (by decide)).1 ?_
          refine zF_iload_n 52 dX12_guests_51 rfl rfl ?_
          refine zF_aaldA 53 dX12_guests_52 rfl (hE.f 7 6 10 (by decide)).2.2 (hE.f 7 6 10 (by decide)).2.1 (by omega) (by omega) (hE.r7 _ (by omega) (by omega)).1 ?_
          refine zF_iconst 54 dX12_guests_53 rfl ?_
          refine zF_iaload 55 dX12_guests_54 rfl (hE.r7 _ (by omega) (by omega)).2.2 (hE.r7 _ (by omega) (by omega)).2.1 (by omega) (by omega) (hE.c7 _ _ (by omega) (by omega) (by omega) (by omega)) ?_
          refine zF_icmp_ne 117 58 dX12_guests_55 rfl rfl (by first | decide | assumption | exact hb _ | exact mSh_rg hb _ _ | (constructor <;> omega)) (by first | decide | assumption | exact hb _ | exact mSh_rg hb _ _ | (constructor <;> omega)) (fun c4 => ?_) (fun c4 => ?_)
          · refine zF_iinc 120 (ls' := [(5, zI ((i : Int) + 1)), (4, zI (mDem N (mSh N s day) - gvS N s day i)), (3, zI (mSh N s day)), (0, zR (E 0)), (1, zI s), (2, zI day)]) dX12_guests_117 rfl rfl rfl (by decide) rfl ?_
            refine zF_goto 23 dX12_guests_120 rfl ?_
            exact zF_locs (ls' := [(5, zI ((i + 1 : Nat) : Int)), (4, zI (mDem N (mSh N s day) - gvS N s day (i + 1))), (3, zI (mSh N s day)), (0, zR (E 0)), (1, zI s), (2, zI day)]) ⟨zlI rfl (by first | rfl | omega | (push_cast; omega) | exact congrArg (_ + ·) (zbT (by assumption)) | exact congrArg (_ + ·) (zbF (by assumption)) | exact congrArg (_ + ·) (zbT (by omega)) | exact congrArg (_ + ·) (zbF (by omega)) | exact congrArg (_ + ·) (if_pos (by omega)).symm | exact congrArg (_ + ·) (if_neg (by omega)).symm | exact (if_pos (by omega)).symm | exact (if_neg (by omega)).symm | exact zsub_s (if_pos (by omega)).symm | exact zsub_s0 (if_neg (by omega)).symm | exact zadd0 (if_neg (by omega)).symm | exact zadd0 (zbF (by omega)) | exact (Int.sub_zero _).symm), zlI rfl (by first | rfl | omega | (push_cast; omega) | exact congrArg (_ + ·) (zbT (by assumption)) | exact congrArg (_ + ·) (zbF (by assumption)) | exact congrArg (_ + ·) (zbT (by omega)) | exact congrArg (_ + ·) (zbF (by omega)) | exact congrArg (_ + ·) (if_pos (by omega)).symm | exact congrArg (_ + ·) (if_neg (by omega)).symm | exact (if_pos (by omega)).symm | exact (if_neg (by omega)).symm | exact zsub_s (if_pos (by omega)).symm | exact zsub_s0 (if_neg (by omega)).symm | exact zadd0 (if_neg (by omega)).symm | exact zadd0 (zbF (by omega)) | exact (Int.sub_zero _).symm), rfl, rfl, rfl, rfl, trivial⟩ ih23
          · refine zF_aload_n 59 dX12_guests_58 rfl rfl ?_
            refine zF_iload 61 dX12_guests_59 rfl rfl ?_
            refine zF_iload_n 62 dX12_guests_61 rfl rfl ?_
            refine zF_callVi 65 (d2 := (d + 1)) (as := [zI (i : Int), zI day]) dX12_guests_62 rfl kX12_62 iX12_shown (ci := 12) rfl eX12_shown (Nat.le_refl _) hE.k0 hE.l0 rfl rfl (Nat.le_of_ble_eq_true rfl) (zt_X12_shown hE hV (by omega) (by omega) (by first | decide | assumption | exact hb _ | exact mSh_rg hb _ _ | (constructor <;> omega))) ?_
            refine zF_iload_n 66 dX12_guests_65 rfl rfl ?_
            refine zF_icmp_eq 72 69 dX12_guests_66 rfl rfl (by first | decide | assumption | exact hb _ | exact mSh_rg hb _ _ | (constructor <;> omega)) (by first | decide | assumption | exact hb _ | exact mSh_rg hb _ _ | (constructor <;> omega)) (fun c5 => ?_) (fun c5 => ?_)
            · refine zF_aload_n 73 dX12_guests_72 rfl rfl ?_
              refine zF_iload 75 dX12_guests_73 rfl rfl ?_
              refine zF_callVi 78 (d2 := (d + 1)) (as := [zI (i : Int)]) dX12_guests_75 rfl kX12_69 iX12_room (ci := 12) rfl eX12_room (Nat.le_refl _) hE.k0 hE.l0 rfl rfl (Nat.le_of_ble_eq_true rfl) (zt_X12_room hE hV (by omega) (by omega)) ?_
              refine zF_aload_n 79 dX12_guests_78 rfl rfl ?_
              refine zF_iload_n 80 dX12_guests_79 rfl rfl ?_
              refine zF_callVi 83 (d2 := (d + 1)) (as := [zI s]) dX12_guests_80 rfl kX12_69 iX12_room (ci := 12) rfl eX12_room (Nat.le_refl _) hE.k0 hE.l0 rfl rfl (Nat.le_of_ble_eq_true rfl) (zt_X12_room hE hV (by omega) (by omega)) ?_
              refine zF_icmp_gt 106 86 dX12_guests_83 rfl rfl (by first | decide | assumption | exact hb _ | exact mSh_rg hb _ _ | (constructor <;> omega)) (by first | decide | assumption | exact hb _ | exact mSh_rg hb _ _ | (constructor <;> omega)) (fun c6 => ?_) (fun c6 => ?_)
              · refine zF_iload 108 dX12_guests_106 rfl rfl ?_
                refine zF_aload_n 109 dX12_guests_108 rfl rfl ?_
                refine zF_iload 111 dX12_guests_109 rfl rfl ?_
                refine zF_callVi 114 (d2 := (d + 1)) (as := [zI (i : Int)]) dX12_guests_111 rfl kX12_69 iX12_room (ci := 12) rfl eX12_room (Nat.le_refl _) hE.k0 hE.l0 rfl rfl (Nat.le_of_ble_eq_true rfl) (zt_X12_room hE hV (by omega) (by omega)) ?_
                refine zF_isub 115 dX12_guests_114 rfl ?_
                refine zF_istore 117 (ls' := [(4, zI ((mDem N (mSh N s day) - gvS N s day i) - (mCap N (i : Int)))), (5, zI (i : Int)), (3, zI (mSh N s day)), (0, zR (E 0)), (1, zI s), (2, zI day)]) dX12_guests_115 rfl (by decide) rfl ?_
                refine zF_iinc 120 (ls' := [(5, zI ((i : Int) + 1)), (4, zI ((mDem N (mSh N s day) - gvS N s day i) - (mCap N (i : Int)))), (3, zI (mSh N s day)), (0, zR (E 0)), (1, zI s), (2, zI day)]) dX12_guests_117 rfl rfl rfl (by decide) rfl ?_
                refine zF_goto 23 dX12_guests_120 rfl ?_
                exact zF_locs (ls' := [(5, zI ((i + 1 : Nat) : Int)), (4, zI (mDem N (mSh N s day) - gvS N s day (i + 1))), (3, zI (mSh N s day)), (0, zR (E 0)), (1, zI s), (2, zI day)]) ⟨zlI rfl (by first | rfl | omega | (push_cast; omega) | exact congrArg (_ + ·) (zbT (by assumption)) | exact congrArg (_ + ·) (zbF (by assumption)) | exact congrArg (_ + ·) (zbT (by omega)) | exact congrArg (_ + ·) (zbF (by omega)) | exact congrArg (_ + ·) (if_pos (by omega)).symm | exact congrArg (_ + ·) (if_neg (by omega)).symm | exact (if_pos (by omega)).symm | exact (if_neg (by omega)).symm | exact zsub_s (if_pos (by omega)).symm | exact zsub_s0 (if_neg (by omega)).symm | exact zadd0 (if_neg (by omega)).symm | exact zadd0 (zbF (by omega)) | exact (Int.sub_zero _).symm), zlI rfl (by first | rfl | omega | (push_cast; omega) | exact congrArg (_ + ·) (zbT (by assumption)) | exact congrArg (_ + ·) (zbF (by assumption)) | exact congrArg (_ + ·) (zbT (by omega)) | exact congrArg (_ + ·) (zbF (by omega)) | exact congrArg (_ + ·) (if_pos (by omega)).symm | exact congrArg (_ + ·) (if_neg (by omega)).symm | exact (if_pos (by omega)).symm | exact (if_neg (by omega)).symm | exact zsub_s (if_pos (by omega)).symm | exact zsub_s0 (if_neg (by omega)).symm | exact zadd0 (if_neg (by omega)).symm | exact zadd0 (zbF (by omega)) | exact (Int.sub_zero _).symm), rfl, rfl, rfl, rfl, trivial⟩ ih23
              · refine zF_aload_n 87 dX12_guests_86 rfl rfl ?_
                refine zF_iload 89 dX12_guests_87 rfl rfl ?_
                refine zF_callVi 92 (d2 := (d + 1)) (as := [zI (i : Int)]) dX12_guests_89 rfl kX12_69 iX12_room (ci := 12) rfl eX12_room (Nat.le_refl _) hE.k0 hE.l0 rfl rfl (Nat.le_of_ble_eq_true rfl) (zt_X12_room hE hV (by omega) (by omega)) ?_
                refine zF_aload_n 93 dX12_guests_92 rfl rfl ?_
                refine zF_iload_n 94 dX12_guests_93 rfl rfl ?_
                refine zF_callVi 97 (d2 := (d + 1)) (as := [zI s]) dX12_guests_94 rfl kX12_69 iX12_room (ci := 12) rfl eX12_room (Nat.le_refl _) hE.k0 hE.l0 rfl rfl (Nat.le_of_ble_eq_true rfl) (zt_X12_room hE hV (by omega) (by omega)) ?_
                refine zF_icmp_ne 117 100 dX12_guests_97 rfl rfl (by first | decide | assumption | exact hb _ | exact mSh_rg hb _ _ | (constructor <;> omega)) (by first | decide | assumption | exact hb _ | exact mSh_rg hb _ _ | (constructor <;> omega)) (fun c7 => ?_) (fun c7 => ?_)
                · refine zF_iinc 120 (ls' := [(5, zI ((i : Int) + 1)), (4, zI (mDem N (mSh N s day) - gvS N s day i)), (3, zI (mSh N s day)), (0, zR (E 0)), (1, zI s), (2, zI day)]) dX12_guests_117 rfl rfl rfl (by decide) rfl ?_
                  refine zF_goto 23 dX12_guests_120 rfl ?_
                  exact zF_locs (ls' := [(5, zI ((i + 1 : Nat) : Int)), (4, zI (mDem N (mSh N s day) - gvS N s day (i + 1))), (3, zI (mSh N s day)), (0, zR (E 0)), (1, zI s), (2, zI day)]) ⟨zlI rfl (by first | rfl | omega | (push_cast; omega) | exact congrArg (_ + ·) (zbT (by assumption)) | exact congrArg (_ + ·) (zbF (by assumption)) | exact congrArg (_ + ·) (zbT (by omega)) | exact congrArg (_ + ·) (zbF (by omega)) | exact congrArg (_ + ·) (if_pos (by omega)).symm | exact congrArg (_ + ·) (if_neg (by omega)).symm | exact (if_pos (by omega)).symm | exact (if_neg (by omega)).symm | exact zsub_s (if_pos (by omega)).symm | exact zsub_s0 (if_neg (by omega)).symm | exact zadd0 (if_neg (by omega)).symm | exact zadd0 (zbF (by omega)) | exact (Int.sub_zero _).symm), zlI rfl (by first | rfl | omega | (push_cast; omega) | exact congrArg (_ + ·) (zbT (by assumption)) | exact congrArg (_ + ·) (zbF (by assumption)) | exact congrArg (_ + ·) (zbT (by omega)) | exact congrArg (_ + ·) (zbF (by omega)) | exact congrArg (_ + ·) (if_pos (by omega)).symm | exact congrArg (_ + ·) (if_neg (by omega)).symm | exact (if_pos (by omega)).symm | exact (if_neg (by omega)).symm | exact zsub_s (if_pos (by omega)).symm | exact zsub_s0 (if_neg (by omega)).symm | exact zadd0 (if_neg (by omega)).symm | exact zadd0 (zbF (by omega)) | exact (Int.sub_zero _).symm), rfl, rfl, rfl, rfl, trivial⟩ ih23
                · refine zF_iload 102 dX12_guests_100 rfl rfl ?_
                  refine zF_iload_n 103 dX12_guests_102 rfl rfl ?_
                  refine zF_icmp_ge 117 106 dX12_guests_103 rfl rfl (by first | decide | assumption | exact hb _ | exact mSh_rg hb _ _ | (constructor <;> omega)) (by first | decide | assumption | exact hb _ | exact mSh_rg hb _ _ | (constructor <;> omega)) (fun c8 => ?_) (fun c8 => ?_)
                  · refine zF_iinc 120 (ls' := [(5, zI ((i : Int) + 1)), (4, zI (mDem N (mSh N s day) - gvS N s day i)), (3, zI (mSh N s day)), (0, zR (E 0)), (1, zI s), (2, zI day)]) dX12_guests_117 rfl rfl rfl (by decide) rfl ?_
                    refine zF_goto 23 dX12_guests_120 rfl ?_
                    exact zF_locs (ls' := [(5, zI ((i + 1 : Nat) : Int)), (4, zI (mDem N (mSh N s day) - gvS N s day (i + 1))), (3, zI (mSh N s day)), (0, zR (E 0)), (1, zI s), (2, zI day)]) ⟨zlI rfl (by first | rfl | omega | (push_cast; omega) | exact congrArg (_ + ·) (zbT (by assumption)) | exact congrArg (_ + ·) (zbF (by assumption)) | exact congrArg (_ + ·) (zbT (by omega)) | exact congrArg (_ + ·) (zbF (by omega)) | exact congrArg (_ + ·) (if_pos (by omega)).symm | exact congrArg (_ + ·) (if_neg (by omega)).symm | exact (if_pos (by omega)).symm | exact (if_neg (by omega)).symm | exact zsub_s (if_pos (by omega)).symm | exact zsub_s0 (if_neg (by omega)).symm | exact zadd0 (if_neg (by omega)).symm | exact zadd0 (zbF (by omega)) | exact (Int.sub_zero _).symm), zlI rfl (by first | rfl | omega | (push_cast; omega) | exact congrArg (_ + ·) (zbT (by assumption)) | exact congrArg (_ + ·) (zbF (by assumption)) | exact congrArg (_ + ·) (zbT (by omega)) | exact congrArg (_ + ·) (zbF (by omega)) | exact congrArg (_ + ·) (if_pos (by omega)).symm | exact congrArg (_ + ·) (if_neg (by omega)).symm | exact (if_pos (by omega)).symm | exact (if_neg (by omega)).symm | exact zsub_s (if_pos (by omega)).symm | exact zsub_s0 (if_neg (by omega)).symm | exact zadd0 (if_neg (by omega)).symm | exact zadd0 (zbF (by omega)) | exact (Int.sub_zero _).symm), rfl, rfl, rfl, rfl, trivial⟩ ih23
                  · refine zF_iload 108 dX12_guests_106 rfl rfl ?_
                    refine zF_aload_n 109 dX12_guests_108 rfl rfl ?_
                    refine zF_iload 111 dX12_guests_109 rfl rfl ?_
                    refine zF_callVi 114 (d2 := (d + 1)) (as := [zI (i : Int)]) dX12_guests_111 rfl kX12_69 iX12_room (ci := 12) rfl eX12_room (Nat.le_refl _) hE.k0 hE.l0 rfl rfl (Nat.le_of_ble_eq_true rfl) (zt_X12_room hE hV (by omega) (by omega)) ?_
                    refine zF_isub 115 dX12_guests_114 rfl ?_
                    refine zF_istore 117 (ls' := [(4, zI ((mDem N (mSh N s day) - gvS N s day i) - (mCap N (i : Int)))), (5, zI (i : Int)), (3, zI (mSh N s day)), (0, zR (E 0)), (1, zI s), (2, zI day)]) dX12_guests_115 rfl (by decide) rfl ?_
                    refine zF_iinc 120 (ls' := [(5, zI ((i : Int) + 1)), (4, zI ((mDem N (mSh N s day) - gvS N s day i) - (mCap N (i : Int)))), (3, zI (mSh N s day)), (0, zR (E 0)), (1, zI s), (2, zI day)]) dX12_guests_117 rfl rfl rfl (by decide) rfl ?_
                    refine zF_goto 23 dX12_guests_120 rfl ?_
                    exact zF_locs (ls' := [(5, zI ((i + 1 : Nat) : Int)), (4, zI (mDem N (mSh N s day) - gvS N s day (i + 1))), (3, zI (mSh N s day)), (0, zR (E 0)), (1, zI s), (2, zI day)]) ⟨zlI rfl (by first | rfl | omega | (push_cast; omega) | exact congrArg (_ + ·) (zbT (by assumption)) | exact congrArg (_ + ·) (zbF (by assumption)) | exact congrArg (_ + ·) (zbT (by omega)) | exact congrArg (_ + ·) (zbF (by omega)) | exact congrArg (_ + ·) (if_pos (by omega)).symm | exact congrArg (_ + ·) (if_neg (by omega)).symm | exact (if_pos (by omega)).symm | exact (if_neg (by omega)).symm | exact zsub_s (if_pos (by omega)).symm | exact zsub_s0 (if_neg (by omega)).symm | exact zadd0 (if_neg (by omega)).symm | exact zadd0 (zbF (by omega)) | exact (Int.sub_zero _).symm), zlI rfl (by first | rfl | omega | (push_cast; omega) | exact congrArg (_ + ·) (zbT (by assumption)) | exact congrArg (_ + ·) (zbF (by assumption)) | exact congrArg (_ + ·) (zbT (by omega)) | exact congrArg (_ + ·) (zbF (by omega)) | exact congrArg (_ + ·) (if_pos (by omega)).symm | exact congrArg (_ + ·) (if_neg (by omega)).symm | exact (if_pos (by omega)).symm | exact (if_neg (by omega)).symm | exact zsub_s (if_pos (by omega)).symm | exact zsub_s0 (if_neg (by omega)).symm | exact zadd0 (if_neg (by omega)).symm | exact zadd0 (zbF (by omega)) | exact (Int.sub_zero _).symm), rfl, rfl, rfl, rfl, trivial⟩ ih23
            · refine zF_goto 117 dX12_guests_69 rfl ?_
              refine zF_iinc 120 (ls' := [(5, zI ((i : Int) + 1)), (4, zI (mDem N (mSh N s day) - gvS N s day i)), (3, zI (mSh N s day)), (0, zR (E 0)), (1, zI s), (2, zI day)]) dX12_guests_117 rfl rfl rfl (by decide) rfl ?_
              refine zF_goto 23 dX12_guests_120 rfl ?_
              exact zF_locs (ls' := [(5, zI ((i + 1 : Nat) : Int)), (4, zI (mDem N (mSh N s day) - gvS N s day (i + 1))), (3, zI (mSh N s day)), (0, zR (E 0)), (1, zI s), (2, zI day)]) ⟨zlI rfl (by first | rfl | omega | (push_cast; omega) | exact congrArg (_ + ·) (zbT (by assumption)) | exact congrArg (_ + ·) (zbF (by assumption)) | exact congrArg (_ + ·) (zbT (by omega)) | exact congrArg (_ + ·) (zbF (by omega)) | exact congrArg (_ + ·) (if_pos (by omega)).symm | exact congrArg (_ + ·) (if_neg (by omega)).symm | exact (if_pos (by omega)).symm | exact (if_neg (by omega)).symm | exact zsub_s (if_pos (by omega)).symm | exact zsub_s0 (if_neg (by omega)).symm | exact zadd0 (if_neg (by omega)).symm | exact zadd0 (zbF (by omega)) | exact (Int.sub_zero _).symm), zlI rfl (by first | rfl | omega | (push_cast; omega) | exact congrArg (_ + ·) (zbT (by assumption)) | exact congrArg (_ + ·) (zbF (by assumption)) | exact congrArg (_ + ·) (zbT (by omega)) | exact congrArg (_ + ·) (zbF (by omega)) | exact congrArg (_ + ·) (if_pos (by omega)).symm | exact congrArg (_ + ·) (if_neg (by omega)).symm | exact (if_pos (by omega)).symm | exact (if_neg (by omega)).symm | exact zsub_s (if_pos (by omega)).symm | exact zsub_s0 (if_neg (by omega)).symm | exact zadd0 (if_neg (by omega)).symm | exact zadd0 (zbF (by omega)) | exact (Int.sub_zero _).symm), rfl, rfl, rfl, rfl, trivial⟩ ih23
    · show zF G mX12_guests (d + 2) 23 [(5, zI (((nS N) : Nat) : Int)), (4, zI (mDem N (mSh N s day) - gvS N s day (nS N))), (3, zI (mSh N s day)), (0, zR (E 0)), (1, zI s), (2, zI day)] [] σ _
      have hgi := gvS_b2 hV (s := s) (day := day) (nS N) (by omega)
      have hdm := mDem_b hV (f := mSh N s day) (by omega) (by omega) (mAge N (mSh N s day)).toNat
      change 0 ≤ mDem N (mSh N s day) ∧ mDem N (mSh N s day) ≤ 9999 at hdm
      refine zF_iload 25 dX12_guests_23 rfl rfl ?_
      refine zF_aload_n 26 dX12_guests_25 rfl rfl ?_
      refine zF_getI 29 dX12_guests_26 rfl gX12_39 (by decide) (by decide) hE.k0 hE.l0 hE.i1 ?_
      refine zF_icmp_ge 123 32 dX12_guests_29 rfl rfl (by first | decide | assumption | exact hb _ | exact mSh_rg hb _ _ | (constructor <;> omega)) (by first | decide | assumption | exact hb _ | exact mSh_rg hb _ _ | (constructor <;> omega)) (fun c9 => ?_) (fun c9 => ?_)
      · refine zF_iconst 124 dX12_guests_123 rfl ?_
        refine zF_iload 126 dX12_guests_124 rfl rfl ?_
        refine zF_aload_n 127 dX12_guests_126 rfl rfl ?_
        refine zF_iload_n 128 dX12_guests_127 rfl rfl ?_
        refine zF_callVi 131 (d2 := (d + 1)) (as := [zI s]) dX12_guests_128 rfl kX12_69 iX12_room (ci := 12) rfl eX12_room (Nat.le_refl _) hE.k0 hE.l0 rfl rfl (Nat.le_of_ble_eq_true rfl) (zt_X12_room hE hV (by omega) (by omega)) ?_
        refine zF_min 134 dX12_guests_131 rfl kX12_72 (Nat.le_refl _) (by first | decide | assumption | exact hb _ | exact mSh_rg hb _ _ | (constructor <;> omega)) (by first | decide | assumption | exact hb _ | exact mSh_rg hb _ _ | (constructor <;> omega)) (Nat.le_of_ble_eq_true rfl) ?_
        refine zF_max 137 dX12_guests_134 rfl kX12_77 (Nat.le_refl _) (by first | decide | assumption | exact hb _ | exact mSh_rg hb _ _ | (constructor <;> omega)) (by first | decide | assumption | exact hb _ | exact mSh_rg hb _ _ | (constructor <;> omega)) (Nat.le_of_ble_eq_true rfl) ?_
        exact zF_iretP dX12_guests_137 rfl (by rw [hg s day s0 (by omega) d0 d1]; exact (if_pos (by omega)).symm)
      · exact absurd c9 (by omega)
  · refine zF_iconst 12 dX12_guests_11 rfl ?_
    exact zF_iretP dX12_guests_12 rfl (by rw [hg s day s0 (by omega) d0 d1]; exact (if_neg (by omega)).symm)
theorem zt_X12_took {s f : Int} {gg : Int → Int} (hE : eO N σ E) (hV : mV N) (hW : mW N) (hg : gOK N gg) (s0 : 0 ≤ s) (s1 : s < N 1) (q0 : -1 ≤ f) (zf : zrg f) : zP1 G mX12_took (d + 3) [zR (E 0), zI s, zI f] σ (gBy N gg s f) := by
  refine zE_of rfl (by simp [zcat]) (Nat.le_of_ble_eq_true rfl) ?_
  show zF G mX12_took (d + 3) 0 [(0, zR (E 0)), (1, zI s), (2, zI f)] [] σ _
  have hb := hV.b
  have hn := hV.n
  have hs := hV.s s s0 (by omega)
  have hw := hW s s0 s1
  have hp := mPrice_b hV s0 (by omega : s < 10)
  refine zF_iconst 1 dX12_took_0 rfl ?_
  refine zF_istore_n 2 (ls' := [(3, zI 0), (0, zR (E 0)), (1, zI s), (2, zI f)]) dX12_took_1 rfl (by decide) rfl ?_
  refine zF_iconst 3 dX12_took_2 rfl ?_
  refine zF_istore 5 (ls' := [(4, zI 0), (3, zI 0), (0, zR (E 0)), (1, zI s), (2, zI f)]) dX12_took_3 rfl (by decide) rfl ?_
  refine zF_locs (ls' := (fun (i : Nat) => [(4, zI (i : Int)), (3, zI (gByN N gg s f i)), (0, zR (E 0)), (1, zI s), (2, zI f)]) 0) ⟨zlI rfl (by first | rfl | omega | (push_cast; omega) | exact congrArg (_ + ·) (zbT (by assumption)) | exact congrArg (_ + ·) (zbF (by assumption)) | exact congrArg (_ + ·) (zbT (by omega)) | exact congrArg (_ + ·) (zbF (by omega)) | exact congrArg (_ + ·) (if_pos (by omega)).symm | exact congrArg (_ + ·) (if_neg (by omega)).symm | exact (if_pos (by omega)).symm | exact (if_neg (by omega)).symm | exact zsub_s (if_pos (by omega)).symm | exact zsub_s0 (if_neg (by omega)).symm | exact zadd0 (if_neg (by omega)).symm | exact zadd0 (zbF (by omega)) | exact (Int.sub_zero _).symm), zlI rfl (by first | rfl | omega | (push_cast; omega) | exact congrArg (_ + ·) (zbT (by assumption)) | exact congrArg (_ + ·) (zbF (by assumption)) | exact congrArg (_ + ·) (zbT (by omega)) | exact congrArg (_ + ·) (zbF (by omega)) | exact congrArg (_ + ·) (if_pos (by omega)).symm | exact congrArg (_ + ·) (if_neg (by omega)).symm | exact (if_pos (by omega)).symm | exact (if_neg (by omega)).symm | exact zsub_s (if_pos (by omega)).symm | exact zsub_s0 (if_neg (by omega)).symm | exact zadd0 (if_neg (by omega)).symm | exact zadd0 (zbF (by omega)) | exact (Int.sub_zero _).symm), rfl, rfl, rfl, trivial⟩ ?_
  refine zF_loop (n := 7) (fun (i : Nat) => [(4, zI (i : Int)), (3, zI (gByN N gg s f i)), (0, zR (E 0)), (1, zI s), (2, zI f)]) (fun _ => σ) (fun i hi ih5 => ?_) ?_
  · show zF G mX12_took (d + 3) 5 [(4, zI (i : Int)), (3, zI (gByN N gg s f i)), (0, zR (E 0)), (1, zI s), (2, zI f)] [] σ _
    refine zF_iload 7 dX12_took_5 rfl rfl ?_
    refine zF_bipush 9 dX12_took_7 rfl (by decide) ?_
    refine zF_icmp_ge 43 12 dX12_took_9 rfl rfl (by first | decide | assumption | exact hb _ | exact mSh_rg hb _ _ | exact zb_rg _ | (constructor <;> omega)) (by first | decide | assumption | exact hb _ | exact mSh_rg hb _ _ | exact zb_rg _ | (constructor <;> omega)) (fun c1 => ?_) (fun c1 => ?_)
    · exact absurd c1 (by omega)
    · refine zF_iload_n 13 dX12_took_12 rfl rfl ?_
      refine zF_if_lt 27 16 dX12_took_13 rfl rfl (by first | decide | assumption | exact hb _ | exact mSh_rg hb _ _ | exact zb_rg _ | (constructor <;> omega)) (fun c2 => ?_) (fun c2 => ?_)
      · refine zF_iload_n 28 dX12_took_27 rfl rfl ?_
        refine zF_aload_n 29 dX12_took_28 rfl rfl ?_
        refine zF_iload_n 30 dX12_took_29 rfl rfl ?_
        refine zF_iload 32 dX12_took_30 rfl rfl ?_
        refine zF_callVi 35 (d2 := (d + 2)) (as := [zI s, zI (i : Int)]) dX12_took_32 rfl kX12_80 iX12_guests (ci := 12) rfl eX12_guests (Nat.le_refl _) hE.k0 hE.l0 rfl rfl (Nat.le_of_ble_eq_true rfl) (zt_X12_guests hE hV hW hg (by omega) (by omega) (by omega) (by omega)) ?_
        refine zF_iadd 36 dX12_took_35 rfl ?_
        refine zF_istore_n 37 (ls' := [(3, zI ((gByN N gg s f i) + (gg (7 * s + (i : Int))))), (4, zI (i : Int)), (0, zR (E 0)), (1, zI s), (2, zI f)]) dX12_took_36 rfl (by decide) rfl ?_
        refine zF_iinc 40 (ls' := [(4, zI ((i : Int) + 1)), (3, zI ((gByN N gg s f i) + (gg (7 * s + (i : Int))))), (0, zR (E 0)), (1, zI s), (2, zI f)]) dX12_took_37 rfl rfl rfl (by decide) rfl ?_
        refine zF_goto 5 dX12_took_40 rfl ?_
        exact zF_locs (ls' := [(4, zI ((i + 1 : Nat) : Int)), (3, zI (gByN N gg s f (i + 1))), (0, zR (E 0)), (1, zI s), (2, zI f)]) ⟨zlI rfl (by first | rfl | omega | (push_cast; omega) | exact congrArg (_ + ·) (zbT (by assumption)) | exact congrArg (_ + ·) (zbF (by assumption)) | exact congrArg (_ + ·) (zbT (by omega)) | exact congrArg (_ + ·) (zbF (by omega)) | exact congrArg (_ + ·) (if_pos (by omega)).symm | exact congrArg (_ + ·) (if_neg (by omega)).symm | exact (if_pos (by omega)).symm | exact (if_neg (by omega)).symm | exact zsub_s (if_pos (by omega)).symm | exact zsub_s0 (if_neg (by omega)).symm | exact zadd0 (if_neg (by omega)).symm | exact zadd0 (zbF (by omega)) | exact (Int.sub_zero _).symm), zlI rfl (by first | rfl | omega | (push_cast; omega) | exact congrArg (_ + ·) (zbT (by assumption)) | exact congrArg (_ + ·) (zbF (by assumption)) | exact congrArg (_ + ·) (zbT (by omega)) | exact congrArg (_ + ·) (zbF (by omega)) | exact congrArg (_ + ·) (if_pos (by omega)).symm | exact congrArg (_ + ·) (if_neg (by omega)).symm | exact (if_pos (by omega)).symm | exact (if_neg (by omega)).symm | exact zsub_s (if_pos (by omega)).symm | exact zsub_s0 (if_neg (by omega)).symm | exact zadd0 (if_neg (by omega)).symm | exact zadd0 (zbF (by omega)) | exact (Int.sub_zero _).symm), rfl, rfl, rfl, trivial⟩ ih5
      · refine zF_aload_n 17 dX12_took_16 rfl rfl ?_
        refine zF_iload_n 18 dX12_took_17 rfl rfl ?_
        refine zF_iload 20 dX12_took_18 rfl rfl ?_
        refine zF_callVi 23 (d2 := (d + 2)) (as := [zI s, zI (i : Int)]) dX12_took_20 rfl kX12_62 iX12_shown (ci := 12) rfl eX12_shown (Nat.le_refl _) hE.k0 hE.l0 rfl rfl (Nat.le_of_ble_eq_true rfl) (zt_X12_shown hE hV (by omega) (by omega) (by first | decide | assumption | exact hb _ | exact mSh_rg hb _ _ | exact zb_rg _ | (constructor <;> omega))) ?_
        refine zF_iload_n 24 dX12_took_23 rfl rfl ?_
        refine zF_icmp_ne 37 27 dX12_took_24 rfl rfl (by first | decide | assumption | exact hb _ | exact mSh_rg hb _ _ | exact zb_rg _ | (constructor <;> omega)) (by first | decide | assumption | exact hb _ | exact mSh_rg hb _ _ | exact zb_rg _ | (constructor <;> omega)) (fun c3 => ?_) (fun c3 => ?_)
        · refine zF_iinc 40 (ls' := [(4, zI ((i : Int) + 1)), (3, zI (gByN N gg s f i)), (0, zR (E 0)), (1, zI s), (2, zI f)]) dX12_took_37 rfl rfl rfl (by decide) rfl ?_
          refine zF_goto 5 dX12_took_40 rfl ?_
          exact zF_locs (ls' := [(4, zI ((i + 1 : Nat) : Int)), (3, zI (gByN N gg s f (i + 1))), (0, zR (E 0)), (1, zI s), (2, zI f)]) ⟨zlI rfl (by first | rfl | omega | (push_cast; omega) | exact congrArg (_ + ·) (zbT (by assumption)) | exact congrArg (_ + ·) (zbF (by assumption)) | exact congrArg (_ + ·) (zbT (by omega)) | exact congrArg (_ + ·) (zbF (by omega)) | exact congrArg (_ + ·) (if_pos (by omega)).symm | exact congrArg (_ + ·) (if_neg (by omega)).symm | exact (if_pos (by omega)).symm | exact (if_neg (by omega)).symm | exact zsub_s (if_pos (by omega)).symm | exact zsub_s0 (if_neg (by omega)).symm | exact zadd0 (if_neg (by omega)).symm | exact zadd0 (zbF (by omega)) | exact (Int.sub_zero _).symm), zlI rfl (by first | rfl | omega | (push_cast; omega) | exact congrArg (_ + ·) (zbT (by assumption)) | exact congrArg (_ + ·) (zbF (by assumption)) | exact congrArg (_ + ·) (zbT (by omega)) | exact congrArg (_ + ·) (zbF (by omega)) | exact congrArg (_ + ·) (if_pos (by omega)).symm | exact congrArg (_ + ·) (if_neg (by omega)).symm | exact (if_pos (by omega)).symm | exact (if_neg (by omega)).symm | exact zsub_s (if_pos (by omega)).symm | exact zsub_s0 (if_neg (by omega)).symm | exact zadd0 (if_neg (by omega)).symm | exact zadd0 (zbF (by omega)) | exact (Int.sub_zero _).symm), rfl, rfl, rfl, trivial⟩ ih5
        · refine zF_iload_n 28 dX12_took_27 rfl rfl ?_
          refine zF_aload_n 29 dX12_took_28 rfl rfl ?_
          refine zF_iload_n 30 dX12_took_29 rfl rfl ?_
          refine zF_iload 32 dX12_took_30 rfl rfl ?_
          refine zF_callVi 35 (d2 := (d + 2)) (as := [zI s, zI (i : Int)]) dX12_took_32 rfl kX12_80 iX12_guests (ci := 12) rfl eX12_guests (Nat.le_refl _) hE.k0 hE.l0 rfl rfl (Nat.le_of_ble_eq_true rfl) (zt_X12_guests hE hV hW hg (by omega) (by omega) (by omega) (by omega)) ?_
          refine zF_iadd 36 dX12_took_35 rfl ?_
          refine zF_istore_n 37 (ls' := [(3, zI ((gByN N gg s f i) + (gg (7 * s + (i : Int))))), (4, zI (i : Int)), (0, zR (E 0)), (1, zI s), (2, zI f)]) dX12_took_36 rfl (by decide) rfl ?_
          refine zF_iinc 40 (ls' := [(4, zI ((i : Int) + 1)), (3, zI ((gByN N gg s f i) + (gg (7 * s + (i : Int))))), (0, zR (E 0)), (1, zI s), (2, zI f)]) dX12_took_37 rfl rfl rfl (by decide) rfl ?_
          refine zF_goto 5 dX12_took_40 rfl ?_
          exact zF_locs (ls' := [(4, zI ((i + 1 : Nat) : Int)), (3, zI (gByN N gg s f (i + 1))), (0, zR (E 0)), (1, zI s), (2, zI f)]) ⟨zlI rfl (by first | rfl | omega | (push_cast; omega) | exact congrArg (_ + ·) (zbT (by assumption)) | exact congrArg (_ + ·) (zbF (by assumption)) | exact congrArg (_ + ·) (zbT (by omega)) | exact congrArg (_ + ·) (zbF (by omega)) | exact congrArg (_ + ·) (if_pos (by omega)).symm | exact congrArg (_ + ·) (if_neg (by omega)).symm | exact (if_pos (by omega)).symm | exact (if_neg (by omega)).symm | exact zsub_s (if_pos (by omega)).symm | exact zsub_s0 (if_neg (by omega)).symm | exact zadd0 (if_neg (by omega)).symm | exact zadd0 (zbF (by omega)) | exact (Int.sub_zero _).symm), zlI rfl (by first | rfl | omega | (push_cast; omega) | exact congrArg (_ + ·) (zbT (by assumption)) | exact congrArg (_ + ·) (zbF (by assumption)) | exact congrArg (_ + ·) (zbT (by omega)) | exact congrArg (_ + ·) (zbF (by omega)) | exact congrArg (_ + ·) (if_pos (by omega)).symm | exact congrArg (_ + ·) (if_neg (by omega)).symm | exact (if_pos (by omega)).symm | exact (if_neg (by omega)).symm | exact zsub_s (if_pos (by omega)).symm | exact zsub_s0 (if_neg (by omega)).symm | exact zadd0 (if_neg (by omega)).symm | exact zadd0 (zbF (by omega)) | exact (Int.sub_zero _).symm), rfl, rfl, rfl, trivial⟩ ih5
  · show zF G mX12_took (d + 3) 5 [(4, zI ((7 : Nat) : Int)), (3, zI (gByN N gg s f 7)), (0, zR (E 0)), (1, zI s), (2, zI f)] [] σ _
    refine zF_iload 7 dX12_took_5 rfl rfl ?_
    refine zF_bipush 9 dX12_took_7 rfl (by decide) ?_
    refine zF_icmp_ge 43 12 dX12_took_9 rfl rfl (by first | decide | assumption | exact hb _ | exact mSh_rg hb _ _ | exact zb_rg _ | (constructor <;> omega)) (by first | decide | assumption | exact hb _ | exact mSh_rg hb _ _ | exact zb_rg _ | (constructor <;> omega)) (fun c4 => ?_) (fun c4 => ?_)
    · refine zF_iload_n 44 dX12_took_43 rfl rfl ?_
      refine zF_aload_n 45 dX12_took_44 rfl rfl ?_
      refine zF_iload_n 46 dX12_took_45 rfl rfl ?_
      refine zF_callVi 49 (d2 := (d + 2)) (as := [zI s]) dX12_took_46 rfl kX12_83 iX12_price (ci := 12) rfl eX12_price (Nat.le_refl _) hE.k0 hE.l0 rfl rfl (Nat.le_of_ble_eq_true rfl) (zt_X12_price hE hV hW (by omega) (by omega)) ?_
      refine zF_imul 50 dX12_took_49 rfl ?_
      exact zF_iretP dX12_took_50 rfl (rfl)
    · exact absurd c4 (by omega)
theorem zt_X12_takings {h f : Int} {gg : Int → Int} (hE : eO N σ E) (hV : mV N) (hW : mW N) (hg : gOK N gg) (q0 : -1 ≤ h) (q1 : -1 ≤ f) (zh : zrg h) (zf : zrg f) : zP1 G mX12_takings (d + 4) [zR (E 0), zI h, zI f] σ (gIn N gg h f) := by
  refine zE_of rfl (by simp [zcat]) (Nat.le_of_ble_eq_true rfl) ?_
  show zF G mX12_takings (d + 4) 0 [(0, zR (E 0)), (1, zI h), (2, zI f)] [] σ _
  have hb := hV.b
  have hn := hV.n
  have hh := nS_eq hV
  refine zF_iconst 1 dX12_takings_0 rfl ?_
  refine zF_istore_n 2 (ls' := [(3, zI 0), (0, zR (E 0)), (1, zI h), (2, zI f)]) dX12_takings_1 rfl (by decide) rfl ?_
  refine zF_iconst 3 dX12_takings_2 rfl ?_
  refine zF_istore 5 (ls' := [(4, zI 0), (3, zI 0), (0, zR (E 0)), (1, zI h), (2, zI f)]) dX12_takings_3 rfl (by decide) rfl ?_
  refine zF_locs (ls' := (fun (i : Nat) => [(4, zI (i : Int)), (3, zI (gInN N gg h f i)), (0, zR (E 0)), (1, zI h), (2, zI f)]) 0) ⟨zlI rfl (by first | rfl | omega | (push_cast; omega) | exact congrArg (_ + ·) (zbT (by assumption)) | exact congrArg (_ + ·) (zbF (by assumption)) | exact congrArg (_ + ·) (zbT (by omega)) | exact congrArg (_ + ·) (zbF (by omega)) | exact congrArg (_ + ·) (if_pos (by omega)).symm | exact congrArg (_ + ·) (if_neg (by omega)).symm | exact (if_pos (by omega)).symm | exact (if_neg (by omega)).symm | exact zsub_s (if_pos (by omega)).symm | exact zsub_s0 (if_neg (by omega)).symm | exact zadd0 (if_neg (by omega)).symm | exact zadd0 (zbF (by omega)) | exact (Int.sub_zero _).symm), zlI rfl (by first | rfl | omega | (push_cast; omega) | exact congrArg (_ + ·) (zbT (by assumption)) | exact congrArg (_ + ·) (zbF (by assumption)) | exact congrArg (_ + ·) (zbT (by omega)) | exact congrArg (_ + ·) (zbF (by omega)) | exact congrArg (_ + ·) (if_pos (by omega)).symm | exact congrArg (_ + ·) (if_neg (by omega)).symm | exact (if_pos (by omega)).symm | exact (if_neg (by omega)).symm | exact zsub_s (if_pos (by omega)).symm | exact zsub_s0 (if_neg (by omega)).symm | exact zadd0 (if_neg (by omega)).symm | exact zadd0 (zbF (by omega)) | exact (Int.sub_zero _).symm), rfl, rfl, rfl, trivial⟩ ?_
  refine zF_loop (n := (nS N)) (fun (i : Nat) => [(4, zI (i : Int)), (3, zI (gInN N gg h f i)), (0, zR (E 0)), (1, zI h), (2, zI f)]) (fun _ => σ) (fun i hi ih5 => ?_) ?_
  · show zF G mX12_takings (d + 4) 5 [(4, zI (i : Int)), (3, zI (gInN N gg h f i)), (0, zR (E 0)), (1, zI h), (2, zI f)] [] σ _
    refine zF_iload 7 dX12_takings_5 rfl rfl ?_
    refine zF_aload_n 8 dX12_takings_7 rfl rfl ?_
    refine zF_getI 11 dX12_takings_8 rfl gX12_39 (by decide) (by decide) hE.k0 hE.l0 hE.i1 ?_
    refine zF_icmp_ge 47 14 dX12_takings_11 rfl rfl (by first | decide | assumption | exact hb _ | exact mSh_rg hb _ _ | exact zb_rg _ | (constructor <;> omega)) (by first | decide | assumption | exact hb _ | exact mSh_rg hb _ _ | exact zb_rg _ | (constructor <;> omega)) (fun c1 => ?_) (fun c1 => ?_)
    · exact absurd c1 (by omega)
    · refine zF_iload_n 15 dX12_takings_14 rfl rfl ?_
      refine zF_if_lt 31 18 dX12_takings_15 rfl rfl (by first | decide | assumption | exact hb _ | exact mSh_rg hb _ _ | exact zb_rg _ | (constructor <;> omega)) (fun c2 => ?_) (fun c2 => ?_)
      · refine zF_iload_n 32 dX12_takings_31 rfl rfl ?_
        refine zF_aload_n 33 dX12_takings_32 rfl rfl ?_
        refine zF_iload 35 dX12_takings_33 rfl rfl ?_
        refine zF_iload_n 36 dX12_takings_35 rfl rfl ?_
        refine zF_callVi 39 (d2 := (d + 3)) (as := [zI (i : Int), zI f]) dX12_takings_36 rfl kX12_86 iX12_took (ci := 12) rfl eX12_took (Nat.le_refl _) hE.k0 hE.l0 rfl rfl (Nat.le_of_ble_eq_true rfl) (zt_X12_took hE hV hW hg (by omega) (by omega) (by omega) (by first | decide | assumption | exact hb _ | exact mSh_rg hb _ _ | exact zb_rg _ | (constructor <;> omega))) ?_
        refine zF_iadd 40 dX12_takings_39 rfl ?_
        refine zF_istore_n 41 (ls' := [(3, zI ((gInN N gg h f i) + (gBy N gg (i : Int) f))), (4, zI (i : Int)), (0, zR (E 0)), (1, zI h), (2, zI f)]) dX12_takings_40 rfl (by decide) rfl ?_
        refine zF_iinc 44 (ls' := [(4, zI ((i : Int) + 1)), (3, zI ((gInN N gg h f i) + (gBy N gg (i : Int) f))), (0, zR (E 0)), (1, zI h), (2, zI f)]) dX12_takings_41 rfl rfl rfl (by decide) rfl ?_
        refine zF_goto 5 dX12_takings_44 rfl ?_
        exact zF_locs (ls' := [(4, zI ((i + 1 : Nat) : Int)), (3, zI (gInN N gg h f (i + 1))), (0, zR (E 0)), (1, zI h), (2, zI f)]) ⟨zlI rfl (by first | rfl | omega | (push_cast; omega) | exact congrArg (_ + ·) (zbT (by assumption)) | exact congrArg (_ + ·) (zbF (by assumption)) | exact congrArg (_ + ·) (zbT (by omega)) | exact congrArg (_ + ·) (zbF (by omega)) | exact congrArg (_ + ·) (if_pos (by omega)).symm | exact congrArg (_ + ·) (if_neg (by omega)).symm | exact (if_pos (by omega)).symm | exact (if_neg (by omega)).symm | exact zsub_s (if_pos (by omega)).symm | exact zsub_s0 (if_neg (by omega)).symm | exact zadd0 (if_neg (by omega)).symm | exact zadd0 (zbF (by omega)) | exact (Int.sub_zero _).symm), zlI rfl (by first | rfl | omega | (push_cast; omega) | exact congrArg (_ + ·) (zbT (by assumption)) | exact congrArg (_ + ·) (zbF (by assumption)) | exact congrArg (_ + ·) (zbT (by omega)) | exact congrArg (_ + ·) (zbF (by omega)) | exact congrArg (_ + ·) (if_pos (by omega)).symm | exact congrArg (_ + ·) (if_neg (by omega)).symm | exact (if_pos (by omega)).symm | exact (if_neg (by omega)).symm | exact zsub_s (if_pos (by omega)).symm | exact zsub_s0 (if_neg (by omega)).symm | exact zadd0 (if_neg (by omega)).symm | exact zadd0 (zbF (by omega)) | exact (Int.sub_zero _).symm), rfl, rfl, rfl, trivial⟩ ih5
      · refine zF_aload_n 19 dX12_takings_18 rfl rfl ?_
        refine zF_getR 22 dX12_takings_19 rfl gX12_15 hE.k0 hE.l0 (hE.f 7 6 10 (by decide)).1 ?_
        refine zF_iload 24 dX12_takings_22 rfl rfl ?_
        refine zF_aaldA 25 dX12_takings_24 rfl (hE.f 7 6 10 (by decide)).2.2 (hE.f 7 6 10 (by decide)).2.1 (by omega) (by omega) (hE.r7 _ (by omega) (by omega)).1 ?_
        refine zF_iconst 26 dX12_takings_25 rfl ?_
        refine zF_iaload 27 dX12_takings_26 rfl (hE.r7 _ (by omega) (by omega)).2.2 (hE.r7 _ (by omega) (by omega)).2.1 (by omega) (by omega) (hE.c7 _ _ (by omega) (by omega) (by omega) (by omega)) ?_
        refine zF_iload_n 28 dX12_takings_27 rfl rfl ?_
        refine zF_icmp_ne 41 31 dX12_takings_28 rfl rfl (by first | decide | assumption | exact hb _ | exact mSh_rg hb _ _ | exact zb_rg _ | (constructor <;> omega)) (by first | decide | assumption | exact hb _ | exact mSh_rg hb _ _ | exact zb_rg _ | (constructor <;> omega)) (fun c3 => ?_) (fun c3 => ?_)
        · refine zF_iinc 44 (ls' := [(4, zI ((i : Int) + 1)), (3, zI (gInN N gg h f i)), (0, zR (E 0)), (1, zI h), (2, zI f)]) dX12_takings_41 rfl rfl rfl (by decide) rfl ?_
          refine zF_goto 5 dX12_takings_44 rfl ?_
          exact zF_locs (ls' := [(4, zI ((i + 1 : Nat) : Int)), (3, zI (gInN N gg h f (i + 1))), (0, zR (E 0)), (1, zI h), (2, zI f)]) ⟨zlI rfl (by first | rfl | omega | (push_cast; omega) | exact congrArg (_ + ·) (zbT (by assumption)) | exact congrArg (_ + ·) (zbF (by assumption)) | exact congrArg (_ + ·) (zbT (by omega)) | exact congrArg (_ + ·) (zbF (by omega)) | exact congrArg (_ + ·) (if_pos (by omega)).symm | exact congrArg (_ + ·) (if_neg (by omega)).symm | exact (if_pos (by omega)).symm | exact (if_neg (by omega)).symm | exact zsub_s (if_pos (by omega)).symm | exact zsub_s0 (if_neg (by omega)).symm | exact zadd0 (if_neg (by omega)).symm | exact zadd0 (zbF (by omega)) | exact (Int.sub_zero _).symm), zlI rfl (by first | rfl | omega | (push_cast; omega) | exact congrArg (_ + ·) (zbT (by assumption)) | exact congrArg (_ + ·) (zbF (by assumption)) | exact congrArg (_ + ·) (zbT (by omega)) | exact congrArg (_ + ·) (zbF (by omega)) | exact congrArg (_ + ·) (if_pos (by omega)).symm | exact congrArg (_ + ·) (if_neg (by omega)).symm | exact (if_pos (by omega)).symm | exact (if_neg (by omega)).symm | exact zsub_s (if_pos (by omega)).symm | exact zsub_s0 (if_neg (by omega)).symm | exact zadd0 (if_neg (by omega)).symm | exact zadd0 (zbF (by omega)) | exact (Int.sub_zero _).symm), rfl, rfl, rfl, trivial⟩ ih5
        · refine zF_iload_n 32 dX12_takings_31 rfl rfl ?_
          refine zF_aload_n 33 dX12_takings_32 rfl rfl ?_
          refine zF_iload 35 dX12_takings_33 rfl rfl ?_
          refine zF_iload_n 36 dX12_takings_35 rfl rfl ?_
          refine zF_callVi 39 (d2 := (d + 3)) (as := [zI (i : Int), zI f]) dX12_takings_36 rfl kX12_86 iX12_took (ci := 12) rfl eX12_took (Nat.le_refl _) hE.k0 hE.l0 rfl rfl (Nat.le_of_ble_eq_true rfl) (zt_X12_took hE hV hW hg (by omega) (by omega) (by omega) (by first | decide | assumption | exact hb _ | exact mSh_rg hb _ _ | exact zb_rg _ | (constructor <;> omega))) ?_
          refine zF_iadd 40 dX12_takings_39 rfl ?_
          refine zF_istore_n 41 (ls' := [(3, zI ((gInN N gg h f i) + (gBy N gg (i : Int) f))), (4, zI (i : Int)), (0, zR (E 0)), (1, zI h), (2, zI f)]) dX12_takings_40 rfl (by decide) rfl ?_
          refine zF_iinc 44 (ls' := [(4, zI ((i : Int) + 1)), (3, zI ((gInN N gg h f i) + (gBy N gg (i : Int) f))), (0, zR (E 0)), (1, zI h), (2, zI f)]) dX12_takings_41 rfl rfl rfl (by decide) rfl ?_
          refine zF_goto 5 dX12_takings_44 rfl ?_
          exact zF_locs (ls' := [(4, zI ((i + 1 : Nat) : Int)), (3, zI (gInN N gg h f (i + 1))), (0, zR (E 0)), (1, zI h), (2, zI f)]) ⟨zlI rfl (by first | rfl | omega | (push_cast; omega) | exact congrArg (_ + ·) (zbT (by assumption)) | exact congrArg (_ + ·) (zbF (by assumption)) | exact congrArg (_ + ·) (zbT (by omega)) | exact congrArg (_ + ·) (zbF (by omega)) | exact congrArg (_ + ·) (if_pos (by omega)).symm | exact congrArg (_ + ·) (if_neg (by omega)).symm | exact (if_pos (by omega)).symm | exact (if_neg (by omega)).symm | exact zsub_s (if_pos (by omega)).symm | exact zsub_s0 (if_neg (by omega)).symm | exact zadd0 (if_neg (by omega)).symm | exact zadd0 (zbF (by omega)) | exact (Int.sub_zero _).symm), zlI rfl (by first | rfl | omega | (push_cast; omega) | exact congrArg (_ + ·) (zbT (by assumption)) | exact congrArg (_ + ·) (zbF (by assumption)) | exact congrArg (_ + ·) (zbT (by omega)) | exact congrArg (_ + ·) (zbF (by omega)) | exact congrArg (_ + ·) (if_pos (by omega)).symm | exact congrArg (_ + ·) (if_neg (by omega)).symm | exact (if_pos (by omega)).symm | exact (if_neg (by omega)).symm | exact zsub_s (if_pos (by omega)).symm | exact zsub_s0 (if_neg (by omega)).symm | exact zadd0 (if_neg (by omega)).symm | exact zadd0 (zbF (by omega)) | exact (Int.sub_zero _).symm), rfl, rfl, rfl, trivial⟩ ih5
  · show zF G mX12_takings (d + 4) 5 [(4, zI (((nS N) : Nat) : Int)), (3, zI (gInN N gg h f (nS N))), (0, zR (E 0)), (1, zI h), (2, zI f)] [] σ _
    refine zF_iload 7 dX12_takings_5 rfl rfl ?_
    refine zF_aload_n 8 dX12_takings_7 rfl rfl ?_
    refine zF_getI 11 dX12_takings_8 rfl gX12_39 (by decide) (by decide) hE.k0 hE.l0 hE.i1 ?_
    refine zF_icmp_ge 47 14 dX12_takings_11 rfl rfl (by first | decide | assumption | exact hb _ | exact mSh_rg hb _ _ | exact zb_rg _ | (constructor <;> omega)) (by first | decide | assumption | exact hb _ | exact mSh_rg hb _ _ | exact zb_rg _ | (constructor <;> omega)) (fun c4 => ?_) (fun c4 => ?_)
    · refine zF_iload_n 48 dX12_takings_47 rfl rfl ?_
      exact zF_iretP dX12_takings_48 rfl (rfl)
    · exact absurd c4 (by omega)
theorem zmax_gi {g : Int → Int} {n : Nat} : 0 ≤ zmax g n ∧ ∀ i : Nat, i < n → g i ≤ zmax g n := by
  induction n with
  | zero => exact ⟨Int.le_refl _, fun i h => absurd h (by omega)⟩
  | succ n ih =>
    simp only [zmax]
    refine ⟨by omega, fun i h => ?_⟩
    by_cases e : i = n
    · subst e; omega
    · have := ih.2 i (by omega); omega
theorem zmax_no {g : Int → Int} {n : Nat} (h : ∀ i : Nat, i < n → g i ≤ 0) : zmax g n ≤ 0 := by
  induction n with
  | zero => exact Int.le_refl _
  | succ n ih =>
    simp only [zmax]
    have := ih fun i hi => h i (by omega)
    have := h n (by omega)
    omega
theorem zsum_ge0 {g : Int → Int} {n : Nat} (h : ∀ i : Nat, i < n → 0 ≤ g i) : 0 ≤ zsum g n ∧ ∀ i : Nat, i < n → g i ≤ zsum g n := by
  induction n with
  | zero => exact ⟨Int.le_refl _, fun i h => absurd h (by omega)⟩
  | succ n ih =>
    have ih := ih fun i hi => h i (by omega)
    have hn := h n (by omega)
    simp only [zsum]
    refine ⟨by omega, fun i hi => ?_⟩
    by_cases e : i = n
    · subst e; omega
    · have := ih.2 i (by omega); omega
theorem zb_nn (p : Prop) [Decidable p] : 0 ≤ zb p := by
  unfold zb
  split <;> omega
theorem mNeed_pos {h f : Int} {s dd : Nat} (s1 : s < nS N) (d1 : dd < 7) (e1 : mS N s 0 = h) (e2 : mSh N s dd = f) : 0 < mNeed N h f := by
  have a := (zmax_gi (g := fun day => mCnt N h f day) (n := 7)).2 dd d1
  have b := (zsum_ge0 (g := fun s => zb (mS N s 0 = h ∧ mSh N s dd = f)) (n := nS N) fun i _ => zb_nn _).2 s s1
  have a : mCnt N h f dd ≤ zmax (fun day => mCnt N h f day) 7 := a
  have b : zb (mS N s 0 = h ∧ mSh N s dd = f) ≤ zsum (fun s => zb (mS N s 0 = h ∧ mSh N s dd = f)) (nS N) := b
  have c : zb (mS N s 0 = h ∧ mSh N s dd = f) = 1 := (zbT ⟨e1, e2⟩).symm
  have e : mCnt N h f dd = zsum (fun s => zb (mS N s 0 = h ∧ mSh N s dd = f)) (nS N) := rfl
  show 0 < zmax (fun day => mCnt N h f day) 7
  omega
theorem mNeed_no {h f : Int} (q : ∀ s : Nat, s < nS N → ∀ dd : Nat, dd < 7 → ¬ (mS N s 0 = h ∧ mSh N s dd = f)) : ¬ 0 < mNeed N h f := by
  have := zmax_no (g := fun day => mCnt N h f day) (n := 7) fun i hi => by
    have e : mCnt N h f i = 0 := by
      show zsum (fun s => zb (mS N s 0 = h ∧ mSh N s i = f)) (nS N) = 0
      exact (zsum_congr fun s hs => (zbF (q s hs i hi)).symm).trans (zsum_0 (nS N))
    show mCnt N h f i ≤ 0
    omega
  show ¬ 0 < zmax (fun day => mCnt N h f day) 7
  omega
theorem zt_X12_isIn {h f : Int} {gg : Int → Int} (hE : eO N σ E) (hV : mV N) (hW : mW N) (hg : gOK N gg) (zh : zrg h) (zf : zrg f) : zP1 G mX12_isIn (d + 1) [zR (E 0), zI h, zI f] σ (zb (0 < mNeed N h f)) := by
  refine zE_of rfl (by simp [zcat]) (Nat.le_of_ble_eq_true rfl) ?_
  show zF G mX12_isIn (d + 1) 0 [(0, zR (E 0)), (1, zI h), (2, zI f)] [] σ _
  have hb := hV.b
  have hn := hV.n
  have hh := nS_eq hV
  refine zF_iconst 1 dX12_isIn_0 rfl ?_
  refine zF_istore_n 2 (ls' := [(3, zI 0), (0, zR (E 0)), (1, zI h), (2, zI f)]) dX12_isIn_1 rfl (by decide) rfl ?_
  refine zF_locs (ls' := [(3, zI ((0 : Nat) : Int)), (0, zR (E 0)), (1, zI h), (2, zI f)]) ⟨zlI rfl (by first | rfl | omega | (push_cast; omega) | exact congrArg (_ + ·) (zbT (by assumption)) | exact congrArg (_ + ·) (zbF (by assumption)) | exact congrArg (_ + ·) (zbT (by omega)) | exact congrArg (_ + ·) (zbF (by omega)) | exact congrArg (_ + ·) (if_pos (by omega)).symm | exact congrArg (_ + ·) (if_neg (by omega)).symm | exact (if_pos (by omega)).symm | exact (if_neg (by omega)).symm | exact zsub_s (if_pos (by omega)).symm | exact zsub_s0 (if_neg (by omega)).symm | exact zadd0 (if_neg (by omega)).symm | exact zadd0 (zbF (by omega)) | exact (Int.sub_zero _).symm), rfl, rfl, rfl, trivial⟩ ?_
  refine zF_while (X := Nat) (fun x => nS N - x) (fun x σ2 => x ≤ nS N ∧ σ2 = σ ∧ ∀ s : Nat, s < x → ∀ dd : Nat, dd < 7 → ¬ (mS N s 0 = h ∧ mSh N s dd = f)) (fun x => [(3, zI ((x : Nat) : Int)), (0, zR (E 0)), (1, zI h), (2, zI f)]) ?_ 0 σ (⟨by omega, rfl, fun s q => absurd q (by omega)⟩)
  intro x σ2 hI2 ih2
  show zF G mX12_isIn (d + 1) 2 [(3, zI ((x : Nat) : Int)), (0, zR (E 0)), (1, zI h), (2, zI f)] [] σ2 _
  obtain ⟨hx, e2, hno⟩ := hI2
  subst e2
  refine zF_iload_n 3 dX12_isIn_2 rfl rfl ?_
  refine zF_aload_n 4 dX12_isIn_3 rfl rfl ?_
  refine zF_getI 7 dX12_isIn_4 rfl gX12_39 (by decide) (by decide) hE.k0 hE.l0 hE.i1 ?_
  refine zF_icmp_ge 57 10 dX12_isIn_7 rfl rfl (by first | decide | assumption | exact hb _ | exact mSh_rg hb _ _ | exact zb_rg _ | (constructor <;> omega)) (by first | decide | assumption | exact hb _ | exact mSh_rg hb _ _ | exact zb_rg _ | (constructor <;> omega)) (fun c1 => ?_) (fun c1 => ?_)
  · refine zF_iconst 58 dX12_isIn_57 rfl ?_
    exact zF_zretP dX12_isIn_58 rfl (by decide) (by have ex : x = nS N := (by omega); subst ex; exact zbF (mNeed_no hno))
  · refine zF_iconst 11 dX12_isIn_10 rfl ?_
    refine zF_istore 13 (ls' := [(4, zI 0), (3, zI ((x : Nat) : Int)), (0, zR (E 0)), (1, zI h), (2, zI f)]) dX12_isIn_11 rfl (by decide) rfl ?_
    refine zF_locs (ls' := [(4, zI ((0 : Nat) : Int)), (3, zI ((x : Nat) : Int)), (0, zR (E 0)), (1, zI h), (2, zI f)]) ⟨zlI rfl (by first | rfl | omega | (push_cast; omega) | exact congrArg (_ + ·) (zbT (by assumption)) | exact congrArg (_ + ·) (zbF (by assumption)) | exact congrArg (_ + ·) (zbT (by omega)) | exact congrArg (_ + ·) (zbF (by omega)) | exact congrArg (_ + ·) (if_pos (by omega)).symm | exact congrArg (_ + ·) (if_neg (by omega)).symm | exact (if_pos (by omega)).symm | exact (if_neg (by omega)).symm | exact zsub_s (if_pos (by omega)).symm | exact zsub_s0 (if_neg (by omega)).symm | exact zadd0 (if_neg (by omega)).symm | exact zadd0 (zbF (by omega)) | exact (Int.sub_zero _).symm), rfl, rfl, rfl, rfl, trivial⟩ ?_
    refine zF_while (X := Nat) (fun z => 7 - z) (fun z σ3 => z ≤ 7 ∧ σ3 = σ2 ∧ ∀ dd : Nat, dd < z → ¬ (mS N x 0 = h ∧ mSh N x dd = f)) (fun z => [(4, zI ((z : Nat) : Int)), (3, zI ((x : Nat) : Int)), (0, zR (E 0)), (1, zI h), (2, zI f)]) ?_ 0 σ2 (⟨by omega, rfl, fun s q => absurd q (by omega)⟩)
    intro y σ3 hI13 ih13
    show zF G mX12_isIn (d + 1) 13 [(4, zI ((y : Nat) : Int)), (3, zI ((x : Nat) : Int)), (0, zR (E 0)), (1, zI h), (2, zI f)] [] σ3 _
    obtain ⟨hy, e3, hny⟩ := hI13
    subst e3
    refine zF_iload 15 dX12_isIn_13 rfl rfl ?_
    refine zF_bipush 17 dX12_isIn_15 rfl (by decide) ?_
    refine zF_icmp_ge 51 20 dX12_isIn_17 rfl rfl (by first | decide | assumption | exact hb _ | exact mSh_rg hb _ _ | exact zb_rg _ | (constructor <;> omega)) (by first | decide | assumption | exact hb _ | exact mSh_rg hb _ _ | exact zb_rg _ | (constructor <;> omega)) (fun c2 => ?_) (fun c2 => ?_)
    · refine zF_iinc 54 (ls' := [(3, zI (((x : Nat) : Int) + 1)), (4, zI ((y : Nat) : Int)), (0, zR (E 0)), (1, zI h), (2, zI f)]) dX12_isIn_51 rfl rfl rfl (by decide) rfl ?_
      refine zF_goto 2 dX12_isIn_54 rfl ?_
      exact zF_locs (ls' := [(3, zI (((x + 1) : Nat) : Int)), (0, zR (E 0)), (1, zI h), (2, zI f)]) ⟨zlI rfl (by first | rfl | omega | (push_cast; omega) | exact congrArg (_ + ·) (zbT (by assumption)) | exact congrArg (_ + ·) (zbF (by assumption)) | exact congrArg (_ + ·) (zbT (by omega)) | exact congrArg (_ + ·) (zbF (by omega)) | exact congrArg (_ + ·) (if_pos (by omega)).symm | exact congrArg (_ + ·) (if_neg (by omega)).symm | exact (if_pos (by omega)).symm | exact (if_neg (by omega)).symm | exact zsub_s (if_pos (by omega)).symm | exact zsub_s0 (if_neg (by omega)).symm | exact zadd0 (if_neg (by omega)).symm | exact zadd0 (zbF (by omega)) | exact (Int.sub_zero _).symm), rfl, rfl, rfl, trivial⟩ (ih2 (x + 1) _ (by omega) (⟨by omega, rfl, fun s q dd hd => by
            by_cases e : s = x
            · subst e; exact hny dd (by omega)
            · exact hno s (by omega) dd hd⟩))
    · refine zF_aload_n 21 dX12_isIn_20 rfl rfl ?_
      refine zF_getR 24 dX12_isIn_21 rfl gX12_15 hE.k0 hE.l0 (hE.f 7 6 10 (by decide)).1 ?_
      refine zF_iload_n 25 dX12_isIn_24 rfl rfl ?_
      refine zF_aaldA 26 dX12_isIn_25 rfl (hE.f 7 6 10 (by decide)).2.2 (hE.f 7 6 10 (by decide)).2.1 (by omega) (by omega) (hE.r7 _ (by omega) (by omega)).1 ?_
      refine zF_iconst 27 dX12_isIn_26 rfl ?_
      refine zF_iaload 28 dX12_isIn_27 rfl (hE.r7 _ (by omega) (by omega)).2.2 (hE.r7 _ (by omega) (by omega)).2.1 (by omega) (by omega) (hE.c7 _ _ (by omega) (by omega) (by omega) (by omega)) ?_
      refine zF_iload_n 29 dX12_isIn_28 rfl rfl ?_
      refine zF_icmp_ne 45 32 dX12_isIn_29 rfl rfl (by first | decide | assumption | exact hb _ | exact mSh_rg hb _ _ | exact zb_rg _ | (constructor <;> omega)) (by first | decide | assumption | exact hb _ | exact mSh_rg hb _ _ | exact zb_rg _ | (constructor <;> omega)) (fun c3 => ?_) (fun c3 => ?_)
      · refine zF_iinc 48 (ls' := [(4, zI (((y : Nat) : Int) + 1)), (3, zI ((x : Nat) : Int)), (0, zR (E 0)), (1, zI h), (2, zI f)]) dX12_isIn_45 rfl rfl rfl (by decide) rfl ?_
        refine zF_goto 13 dX12_isIn_48 rfl ?_
        exact zF_locs (ls' := [(4, zI (((y + 1) : Nat) : Int)), (3, zI ((x : Nat) : Int)), (0, zR (E 0)), (1, zI h), (2, zI f)]) ⟨zlI rfl (by first | rfl | omega | (push_cast; omega) | exact congrArg (_ + ·) (zbT (by assumption)) | exact congrArg (_ + ·) (zbF (by assumption)) | exact congrArg (_ + ·) (zbT (by omega)) | exact congrArg (_ + ·) (zbF (by omega)) | exact congrArg (_ + ·) (if_pos (by omega)).symm | exact congrArg (_ + ·) (if_neg (by omega)).symm | exact (if_pos (by omega)).symm | exact (if_neg (by omega)).symm | exact zsub_s (if_pos (by omega)).symm | exact zsub_s0 (if_neg (by omega)).symm | exact zadd0 (if_neg (by omega)).symm | exact zadd0 (zbF (by omega)) | exact (Int.sub_zero _).symm), rfl, rfl, rfl, rfl, trivial⟩ (ih13 (y + 1) _ (by omega) (⟨by omega, rfl, fun dd hd => by
            by_cases e : dd = y
            · subst e; omega
            · exact hny dd (by omega)⟩))
      · refine zF_aload_n 33 dX12_isIn_32 rfl rfl ?_
        refine zF_iload_n 34 dX12_isIn_33 rfl rfl ?_
        refine zF_iload 36 dX12_isIn_34 rfl rfl ?_
        refine zF_callVi 39 (d2 := d) (as := [zI ((x : Nat) : Int), zI ((y : Nat) : Int)]) dX12_isIn_36 rfl kX12_62 iX12_shown (ci := 12) rfl eX12_shown (Nat.le_refl _) hE.k0 hE.l0 rfl rfl (Nat.le_of_ble_eq_true rfl) (zt_X12_shown hE hV (by omega) (by omega) (by first | decide | assumption | exact hb _ | exact mSh_rg hb _ _ | exact zb_rg _ | (constructor <;> omega))) ?_
        refine zF_iload_n 40 dX12_isIn_39 rfl rfl ?_
        refine zF_icmp_ne 45 43 dX12_isIn_40 rfl rfl (by first | decide | assumption | exact hb _ | exact mSh_rg hb _ _ | exact zb_rg _ | (constructor <;> omega)) (by first | decide | assumption | exact hb _ | exact mSh_rg hb _ _ | exact zb_rg _ | (constructor <;> omega)) (fun c4 => ?_) (fun c4 => ?_)
        · refine zF_iinc 48 (ls' := [(4, zI (((y : Nat) : Int) + 1)), (3, zI ((x : Nat) : Int)), (0, zR (E 0)), (1, zI h), (2, zI f)]) dX12_isIn_45 rfl rfl rfl (by decide) rfl ?_
          refine zF_goto 13 dX12_isIn_48 rfl ?_
          exact zF_locs (ls' := [(4, zI (((y + 1) : Nat) : Int)), (3, zI ((x : Nat) : Int)), (0, zR (E 0)), (1, zI h), (2, zI f)]) ⟨zlI rfl (by first | rfl | omega | (push_cast; omega) | exact congrArg (_ + ·) (zbT (by assumption)) | exact congrArg (_ + ·) (zbF (by assumption)) | exact congrArg (_ + ·) (zbT (by omega)) | exact congrArg (_ + ·) (zbF (by omega)) | exact congrArg (_ + ·) (if_pos (by omega)).symm | exact congrArg (_ + ·) (if_neg (by omega)).symm | exact (if_pos (by omega)).symm | exact (if_neg (by omega)).symm | exact zsub_s (if_pos (by omega)).symm | exact zsub_s0 (if_neg (by omega)).symm | exact zadd0 (if_neg (by omega)).symm | exact zadd0 (zbF (by omega)) | exact (Int.sub_zero _).symm), rfl, rfl, rfl, rfl, trivial⟩ (ih13 (y + 1) _ (by omega) (⟨by omega, rfl, fun dd hd => by
            by_cases e : dd = y
            · subst e; omega
            · exact hny dd (by omega)⟩))
        · refine zF_iconst 44 dX12_isIn_43 rfl ?_
          exact zF_zretP dX12_isIn_44 rfl (by decide) (zbT (mNeed_pos (by omega : x < nS N) (by omega : y < 7) (by omega) (by omega)))
theorem zt_X12_part {h f t : Int} (hE : eO N σ E) (hV : mV N) (h0 : 0 ≤ h) (h1 : h < N 0) (f0 : 0 ≤ f) (f1 : f < N 2) (t0 : 0 ≤ t) (t1 : t ≤ 20790000) : zP1 G mX12_part (d + 1) [zR (E 0), zI h, zI f, zI t] σ (mShare N h f t) := by
  refine zE_of rfl (by simp [zcat]) (Nat.le_of_ble_eq_true rfl) ?_
  show zF G mX12_part (d + 1) 0 [(0, zR (E 0)), (1, zI h), (2, zI f), (3, zI t)] [] σ _
  have hb := hV.b
  have hn := hV.n
  have hf := hV.f f f0 (by omega)
  have hf3 := hf.2.2.2.2.2.2.2.2.1 f1
  have hix := mIdx_b hV h0 (by omega : h < 4) f0 f1
  have hrr := hV.r h f h0 (by omega) f0 (by omega)
  have hpp := mShare_p hV (ho := h) h0 (by omega) f0 f1 t0 t1
  refine zF_aload_n 1 dX12_part_0 rfl rfl ?_
  refine zF_getR 4 dX12_part_1 rfl gX12_18 hE.k0 hE.l0 (hE.f 8 6 6 (by decide)).1 ?_
  refine zF_iload_n 5 dX12_part_4 rfl rfl ?_
  refine zF_aaldA 6 dX12_part_5 rfl (hE.f 8 6 6 (by decide)).2.2 (hE.f 8 6 6 (by decide)).2.1 (by omega) (by omega) (hE.r8 _ (by omega) (by omega)).1 ?_
  refine zF_iconst 7 dX12_part_6 rfl ?_
  refine zF_aload_n 8 dX12_part_7 rfl rfl ?_
  refine zF_getR 11 dX12_part_8 rfl gX12_25 hE.k0 hE.l0 (hE.f 10 6 4 (by decide)).1 ?_
  refine zF_iload_n 12 dX12_part_11 rfl rfl ?_
  refine zF_aaldA 13 dX12_part_12 rfl (hE.f 10 6 4 (by decide)).2.2 (hE.f 10 6 4 (by decide)).2.1 (by omega) (by omega) (hE.r10 _ (by omega) (by omega)).1 ?_
  refine zF_iload_n 14 dX12_part_13 rfl rfl ?_
  refine zF_iaload 15 dX12_part_14 rfl (hE.r10 _ (by omega) (by omega)).2.2 (hE.r10 _ (by omega) (by omega)).2.1 (by omega) (by omega) (hE.c10 _ _ (by omega) (by omega) (by omega) (by omega)) ?_
  refine zF_aload_n 16 dX12_part_15 rfl rfl ?_
  refine zF_getR 19 dX12_part_16 rfl gX12_18 hE.k0 hE.l0 (hE.f 8 6 6 (by decide)).1 ?_
  refine zF_iload_n 20 dX12_part_19 rfl rfl ?_
  refine zF_aaldA 21 dX12_part_20 rfl (hE.f 8 6 6 (by decide)).2.2 (hE.f 8 6 6 (by decide)).2.1 (by omega) (by omega) (hE.r8 _ (by omega) (by omega)).1 ?_
  refine zF_iconst 22 dX12_part_21 rfl ?_
  refine zF_iaload 23 dX12_part_22 rfl (hE.r8 _ (by omega) (by omega)).2.2 (hE.r8 _ (by omega) (by omega)).2.1 (by omega) (by omega) (hE.c8 _ _ (by omega) (by omega) (by omega) (by omega)) ?_
  refine zF_iconst 24 dX12_part_23 rfl ?_
  refine zF_isub 25 dX12_part_24 rfl ?_
  refine zF_min 28 dX12_part_25 rfl kX12_72 (Nat.le_refl _) (by first | decide | assumption | exact hb _ | exact mSh_rg hb _ _ | exact zb_rg _ | (constructor <;> omega)) (by first | decide | assumption | exact hb _ | exact mSh_rg hb _ _ | exact zb_rg _ | (constructor <;> omega)) (Nat.le_of_ble_eq_true rfl) ?_
  have hmi : 0 ≤ min (mR N h f) ((mF N f 3) - 1) ∧ min (mR N h f) ((mF N f 3) - 1) < mF N f 3 := by omega
  refine zF_iadd 29 dX12_part_28 rfl ?_
  change 0 ≤ t * mF N f (4 + min (mR N h f) (mF N f 3 - 1)) ∧ t * mF N f (4 + min (mR N h f) (mF N f 3 - 1)) ≤ 1871100000 at hpp
  refine zF_iaload 30 dX12_part_29 rfl (hE.r8 _ (by omega) (by omega)).2.2 (hE.r8 _ (by omega) (by omega)).2.1 (by omega) (by omega) (hE.c8 _ _ (by omega) (by omega) (by omega) (by omega)) ?_
  refine zF_istore 32 (ls' := [(4, zI (mF N f (4 + (min (mR N h f) ((mF N f 3) - 1))))), (0, zR (E 0)), (1, zI h), (2, zI f), (3, zI t)]) dX12_part_30 rfl (by decide) rfl ?_
  refine zF_iload_n 33 dX12_part_32 rfl rfl ?_
  refine zF_iload 35 dX12_part_33 rfl rfl ?_
  refine zF_imul 36 dX12_part_35 rfl ?_
  refine zF_bipush 38 dX12_part_36 rfl (by decide) ?_
  refine zF_idiv 39 dX12_part_38 rfl (by omega) (by omega) (by omega) (by omega) ?_
  refine zF_aload_n 40 dX12_part_39 rfl rfl ?_
  refine zF_getR 43 dX12_part_40 rfl gX12_18 hE.k0 hE.l0 (hE.f 8 6 6 (by decide)).1 ?_
  refine zF_iload_n 44 dX12_part_43 rfl rfl ?_
  refine zF_aaldA 45 dX12_part_44 rfl (hE.f 8 6 6 (by decide)).2.2 (hE.f 8 6 6 (by decide)).2.1 (by omega) (by omega) (hE.r8 _ (by omega) (by omega)).1 ?_
  refine zF_iconst 46 dX12_part_45 rfl ?_
  refine zF_iaload 47 dX12_part_46 rfl (hE.r8 _ (by omega) (by omega)).2.2 (hE.r8 _ (by omega) (by omega)).2.1 (by omega) (by omega) (hE.c8 _ _ (by omega) (by omega) (by omega) (by omega)) ?_
  refine zF_iload_n 48 dX12_part_47 rfl rfl ?_
  refine zF_min 51 dX12_part_48 rfl kX12_72 (Nat.le_refl _) (by first | decide | assumption | exact hb _ | exact mSh_rg hb _ _ | exact zb_rg _ | (constructor <;> omega)) (by first | decide | assumption | exact hb _ | exact mSh_rg hb _ _ | exact zb_rg _ | (constructor <;> omega)) (Nat.le_of_ble_eq_true rfl) ?_
  refine zF_max 54 dX12_part_51 rfl kX12_77 (Nat.le_refl _) (by first | decide | assumption | exact hb _ | exact mSh_rg hb _ _ | exact zb_rg _ | (constructor <;> omega)) (by first | decide | assumption | exact hb _ | exact mSh_rg hb _ _ | exact zb_rg _ | (constructor <;> omega)) (Nat.le_of_ble_eq_true rfl) ?_
  exact zF_iretP dX12_part_54 rfl (rfl)
theorem zt_X12_share {h f : Int} {gg : Int → Int} (hE : eO N σ E) (hV : mV N) (hW : mW N) (hg : gOK N gg) (h0 : 0 ≤ h) (h1 : h < N 0) (f0 : 0 ≤ f) (f1 : f < N 2) : zP1 G mX12_share (d + 5) [zR (E 0), zI h, zI f] σ (gShare N gg h f) := by
  refine zE_of rfl (by simp [zcat]) (Nat.le_of_ble_eq_true rfl) ?_
  show zF G mX12_share (d + 5) 0 [(0, zR (E 0)), (1, zI h), (2, zI f)] [] σ _
  have hb := hV.b
  have hn := hV.n
  have hf := hV.f f f0 (by omega)
  have hf3 := hf.2.2.2.2.2.2.2.2.1 f1
  have hgv := gg_v hV hg
  have hgi := gIn_b hV hgv h f (nS N) (nS_eq hV).2
  refine zF_aload_n 1 dX12_share_0 rfl rfl ?_
  refine zF_iload_n 2 dX12_share_1 rfl rfl ?_
  refine zF_iload_n 3 dX12_share_2 rfl rfl ?_
  refine zF_callVi 6 (d2 := (d + 4)) (as := [zI h, zI f]) dX12_share_3 rfl kX12_89 iX12_isIn (ci := 12) rfl eX12_isIn (Nat.le_refl _) hE.k0 hE.l0 rfl rfl (Nat.le_of_ble_eq_true rfl) (zt_X12_isIn hE hV hW hg (by first | decide | assumption | exact hb _ | exact mSh_rg hb _ _ | exact zb_rg _ | (constructor <;> omega)) (by first | decide | assumption | exact hb _ | exact mSh_rg hb _ _ | exact zb_rg _ | (constructor <;> omega))) ?_
  refine zF_ifb_eq 24 9 dX12_share_6 rfl rfl (fun c1 => ?_) (fun c1 => ?_)
  · refine zF_iconst 25 dX12_share_24 rfl ?_
    exact zF_iretP dX12_share_25 rfl (by first | exact (if_pos (by assumption)).symm | exact (if_neg (by assumption)).symm)
  · refine zF_aload_n 10 dX12_share_9 rfl rfl ?_
    refine zF_iload_n 11 dX12_share_10 rfl rfl ?_
    refine zF_iload_n 12 dX12_share_11 rfl rfl ?_
    refine zF_aload_n 13 dX12_share_12 rfl rfl ?_
    refine zF_iload_n 14 dX12_share_13 rfl rfl ?_
    refine zF_iload_n 15 dX12_share_14 rfl rfl ?_
    refine zF_callVi 18 (d2 := (d + 4)) (as := [zI h, zI f]) dX12_share_15 rfl kX12_93 iX12_takings (ci := 12) rfl eX12_takings (Nat.le_refl _) hE.k0 hE.l0 rfl rfl (Nat.le_of_ble_eq_true rfl) (zt_X12_takings hE hV hW hg (by omega) (by omega) (by first | decide | assumption | exact hb _ | exact mSh_rg hb _ _ | exact zb_rg _ | (constructor <;> omega)) (by first | decide | assumption | exact hb _ | exact mSh_rg hb _ _ | exact zb_rg _ | (constructor <;> omega))) ?_
    change 0 ≤ gIn N gg h f ∧ gIn N gg h f ≤ 20790000 at hgi
    refine zF_callVi 21 (d2 := (d + 4)) (as := [zI h, zI f, zI (gIn N gg h f)]) dX12_share_18 rfl kX12_96 iX12_part (ci := 12) rfl eX12_part (Nat.le_refl _) hE.k0 hE.l0 rfl rfl (Nat.le_of_ble_eq_true rfl) (zt_X12_part hE hV (by omega) (by omega) (by omega) (by omega) (by omega) (by omega)) ?_
    refine zF_goto 25 dX12_share_21 rfl ?_
    exact zF_iretP dX12_share_25 rfl (by first | exact (if_pos (by assumption)).symm | exact (if_neg (by assumption)).symm)
theorem zt_X12_shares {h : Int} {gg : Int → Int} (hE : eO N σ E) (hV : mV N) (hW : mW N) (hg : gOK N gg) (h0 : 0 ≤ h) (h1 : h < N 0) : zP1 G mX12_shares (d + 6) [zR (E 0), zI h] σ (gShares N gg h) := by
  refine zE_of rfl (by simp [zcat]) (Nat.le_of_ble_eq_true rfl) ?_
  show zF G mX12_shares (d + 6) 0 [(0, zR (E 0)), (1, zI h)] [] σ _
  have hb := hV.b
  have hn := hV.n
  have hh := nF_eq hV
  refine zF_iconst 1 dX12_shares_0 rfl ?_
  refine zF_istore_n 2 (ls' := [(2, zI 0), (0, zR (E 0)), (1, zI h)]) dX12_shares_1 rfl (by decide) rfl ?_
  refine zF_iconst 3 dX12_shares_2 rfl ?_
  refine zF_istore_n 4 (ls' := [(3, zI 0), (2, zI 0), (0, zR (E 0)), (1, zI h)]) dX12_shares_3 rfl (by decide) rfl ?_
  refine zF_locs (ls' := (fun (i : Nat) => [(3, zI (i : Int)), (2, zI (gSharesN N gg h i)), (0, zR (E 0)), (1, zI h)]) 0) ⟨zlI rfl (by first | rfl | omega | (push_cast; omega) | exact congrArg (_ + ·) (zbT (by assumption)) | exact congrArg (_ + ·) (zbF (by assumption)) | exact congrArg (_ + ·) (zbT (by omega)) | exact congrArg (_ + ·) (zbF (by omega)) | exact congrArg (_ + ·) (if_pos (by omega)).symm | exact congrArg (_ + ·) (if_neg (by omega)).symm | exact (if_pos (by omega)).symm | exact (if_neg (by omega)).symm | exact zsub_s (if_pos (by omega)).symm | exact zsub_s0 (if_neg (by omega)).symm | exact zadd0 (if_neg (by omega)).symm | exact zadd0 (zbF (by omega)) | exact (Int.sub_zero _).symm), zlI rfl (by first | rfl | omega | (push_cast; omega) | exact congrArg (_ + ·) (zbT (by assumption)) | exact congrArg (_ + ·) (zbF (by assumption)) | exact congrArg (_ + ·) (zbT (by omega)) | exact congrArg (_ + ·) (zbF (by omega)) | exact congrArg (_ + ·) (if_pos (by omega)).symm | exact congrArg (_ + ·) (if_neg (by omega)).symm | exact (if_pos (by omega)).symm | exact (if_neg (by omega)).symm | exact zsub_s (if_pos (by omega)).symm | exact zsub_s0 (if_neg (by omega)).symm | exact zadd0 (if_neg (by omega)).symm | exact zadd0 (zbF (by omega)) | exact (Int.sub_zero _).symm), rfl, rfl, trivial⟩ ?_
  refine zF_loop (n := (nF N)) (fun (i : Nat) => [(3, zI (i : Int)), (2, zI (gSharesN N gg h i)), (0, zR (E 0)), (1, zI h)]) (fun _ => σ) (fun i hi ih4 => ?_) ?_
  · show zF G mX12_shares (d + 6) 4 [(3, zI (i : Int)), (2, zI (gSharesN N gg h i)), (0, zR (E 0)), (1, zI h)] [] σ _
    refine zF_iload_n 5 dX12_shares_4 rfl rfl ?_
    refine zF_aload_n 6 dX12_shares_5 rfl rfl ?_
    refine zF_getI 9 dX12_shares_6 rfl gX12_42 (by decide) (by decide) hE.k0 hE.l0 hE.i2 ?_
    refine zF_icmp_ge 27 12 dX12_shares_9 rfl rfl (by first | decide | assumption | exact hb _ | exact mSh_rg hb _ _ | exact zb_rg _ | (constructor <;> omega)) (by first | decide | assumption | exact hb _ | exact mSh_rg hb _ _ | exact zb_rg _ | (constructor <;> omega)) (fun c1 => ?_) (fun c1 => ?_)
    · exact absurd c1 (by omega)
    · refine zF_iload_n 13 dX12_shares_12 rfl rfl ?_
      refine zF_aload_n 14 dX12_shares_13 rfl rfl ?_
      refine zF_iload_n 15 dX12_shares_14 rfl rfl ?_
      refine zF_iload_n 16 dX12_shares_15 rfl rfl ?_
      refine zF_callVi 19 (d2 := (d + 5)) (as := [zI h, zI (i : Int)]) dX12_shares_16 rfl kX12_100 iX12_share (ci := 12) rfl eX12_share (Nat.le_refl _) hE.k0 hE.l0 rfl rfl (Nat.le_of_ble_eq_true rfl) (zt_X12_share hE hV hW hg (by omega) (by omega) (by omega) (by omega)) ?_
      refine zF_iadd 20 dX12_shares_19 rfl ?_
      refine zF_istore_n 21 (ls' := [(2, zI ((gSharesN N gg h i) + (gShare N gg h (i : Int)))), (3, zI (i : Int)), (0, zR (E 0)), (1, zI h)]) dX12_shares_20 rfl (by decide) rfl ?_
      refine zF_iinc 24 (ls' := [(3, zI ((i : Int) + 1)), (2, zI ((gSharesN N gg h i) + (gShare N gg h (i : Int)))), (0, zR (E 0)), (1, zI h)]) dX12_shares_21 rfl rfl rfl (by decide) rfl ?_
      refine zF_goto 4 dX12_shares_24 rfl ?_
      exact zF_locs (ls' := [(3, zI ((i + 1 : Nat) : Int)), (2, zI (gSharesN N gg h (i + 1))), (0, zR (E 0)), (1, zI h)]) ⟨zlI rfl (by first | rfl | omega | (push_cast; omega) | exact congrArg (_ + ·) (zbT (by assumption)) | exact congrArg (_ + ·) (zbF (by assumption)) | exact congrArg (_ + ·) (zbT (by omega)) | exact congrArg (_ + ·) (zbF (by omega)) | exact congrArg (_ + ·) (if_pos (by omega)).symm | exact congrArg (_ + ·) (if_neg (by omega)).symm | exact (if_pos (by omega)).symm | exact (if_neg (by omega)).symm | exact zsub_s (if_pos (by omega)).symm | exact zsub_s0 (if_neg (by omega)).symm | exact zadd0 (if_neg (by omega)).symm | exact zadd0 (zbF (by omega)) | exact (Int.sub_zero _).symm), zlI rfl (by first | rfl | omega | (push_cast; omega) | exact congrArg (_ + ·) (zbT (by assumption)) | exact congrArg (_ + ·) (zbF (by assumption)) | exact congrArg (_ + ·) (zbT (by omega)) | exact congrArg (_ + ·) (zbF (by omega)) | exact congrArg (_ + ·) (if_pos (by omega)).symm | exact congrArg (_ + ·) (if_neg (by omega)).symm | exact (if_pos (by omega)).symm | exact (if_neg (by omega)).symm | exact zsub_s (if_pos (by omega)).symm | exact zsub_s0 (if_neg (by omega)).symm | exact zadd0 (if_neg (by omega)).symm | exact zadd0 (zbF (by omega)) | exact (Int.sub_zero _).symm), rfl, rfl, trivial⟩ ih4
  · show zF G mX12_shares (d + 6) 4 [(3, zI (((nF N) : Nat) : Int)), (2, zI (gSharesN N gg h (nF N))), (0, zR (E 0)), (1, zI h)] [] σ _
    refine zF_iload_n 5 dX12_shares_4 rfl rfl ?_
    refine zF_aload_n 6 dX12_shares_5 rfl rfl ?_
    refine zF_getI 9 dX12_shares_6 rfl gX12_42 (by decide) (by decide) hE.k0 hE.l0 hE.i2 ?_
    refine zF_icmp_ge 27 12 dX12_shares_9 rfl rfl (by first | decide | assumption | exact hb _ | exact mSh_rg hb _ _ | exact zb_rg _ | (constructor <;> omega)) (by first | decide | assumption | exact hb _ | exact mSh_rg hb _ _ | exact zb_rg _ | (constructor <;> omega)) (fun c2 => ?_) (fun c2 => ?_)
    · refine zF_iload_n 28 dX12_shares_27 rfl rfl ?_
      exact zF_iretP dX12_shares_28 rfl (rfl)
    · exact absurd c2 (by omega)
theorem zt_X12_rents {h : Int} (hE : eO N σ E) (hV : mV N) (q0 : -1 ≤ h) (zh : zrg h) : zP1 G mX12_rents d [zR (E 0), zI h] σ (mRent N h) := by
  refine zE_of rfl (by simp [zcat]) (Nat.le_of_ble_eq_true rfl) ?_
  show zF G mX12_rents d 0 [(0, zR (E 0)), (1, zI h)] [] σ _
  have hb := hV.b
  have hn := hV.n
  have hh := nS_eq hV
  refine zF_iconst 1 dX12_rents_0 rfl ?_
  refine zF_istore_n 2 (ls' := [(2, zI 0), (0, zR (E 0)), (1, zI h)]) dX12_rents_1 rfl (by decide) rfl ?_
  refine zF_iconst 3 dX12_rents_2 rfl ?_
  refine zF_istore_n 4 (ls' := [(3, zI 0), (2, zI 0), (0, zR (E 0)), (1, zI h)]) dX12_rents_3 rfl (by decide) rfl ?_
  refine zF_locs (ls' := (fun (i : Nat) => [(3, zI (i : Int)), (2, zI (mRentN N h i)), (0, zR (E 0)), (1, zI h)]) 0) ⟨zlI rfl (by first | rfl | omega | (push_cast; omega) | exact congrArg (_ + ·) (zbT (by assumption)) | exact congrArg (_ + ·) (zbF (by assumption)) | exact congrArg (_ + ·) (zbT (by omega)) | exact congrArg (_ + ·) (zbF (by omega)) | exact congrArg (_ + ·) (if_pos (by omega)).symm | exact congrArg (_ + ·) (if_neg (by omega)).symm | exact (if_pos (by omega)).symm | exact (if_neg (by omega)).symm | exact zsub_s (if_pos (by omega)).symm | exact zsub_s0 (if_neg (by omega)).symm | exact zadd0 (if_neg (by omega)).symm | exact zadd0 (zbF (by omega)) | exact (Int.sub_zero _).symm), zlI rfl (by first | rfl | omega | (push_cast; omega) | exact congrArg (_ + ·) (zbT (by assumption)) | exact congrArg (_ + ·) (zbF (by assumption)) | exact congrArg (_ + ·) (zbT (by omega)) | exact congrArg (_ + ·) (zbF (by omega)) | exact congrArg (_ + ·) (if_pos (by omega)).symm | exact congrArg (_ + ·) (if_neg (by omega)).symm | exact (if_pos (by omega)).symm | exact (if_neg (by omega)).symm | exact zsub_s (if_pos (by omega)).symm | exact zsub_s0 (if_neg (by omega)).symm | exact zadd0 (if_neg (by omega)).symm | exact zadd0 (zbF (by omega)) | exact (Int.sub_zero _).symm), rfl, rfl, trivial⟩ ?_
  refine zF_loop (n := (nS N)) (fun (i : Nat) => [(3, zI (i : Int)), (2, zI (mRentN N h i)), (0, zR (E 0)), (1, zI h)]) (fun _ => σ) (fun i hi ih4 => ?_) ?_
  · show zF G mX12_rents d 4 [(3, zI (i : Int)), (2, zI (mRentN N h i)), (0, zR (E 0)), (1, zI h)] [] σ _
    refine zF_iload_n 5 dX12_rents_4 rfl rfl ?_
    refine zF_aload_n 6 dX12_rents_5 rfl rfl ?_
    refine zF_getI 9 dX12_rents_6 rfl gX12_39 (by decide) (by decide) hE.k0 hE.l0 hE.i1 ?_
    refine zF_icmp_ge 45 12 dX12_rents_9 rfl rfl (by first | decide | assumption | exact hb _ | exact mSh_rg hb _ _ | exact zb_rg _ | (constructor <;> omega)) (by first | decide | assumption | exact hb _ | exact mSh_rg hb _ _ | exact zb_rg _ | (constructor <;> omega)) (fun c1 => ?_) (fun c1 => ?_)
    · exact absurd c1 (by omega)
    · refine zF_iload_n 13 dX12_rents_12 rfl rfl ?_
      refine zF_if_lt 28 16 dX12_rents_13 rfl rfl (by first | decide | assumption | exact hb _ | exact mSh_rg hb _ _ | exact zb_rg _ | (constructor <;> omega)) (fun c2 => ?_) (fun c2 => ?_)
      · refine zF_iload_n 29 dX12_rents_28 rfl rfl ?_
        refine zF_aload_n 30 dX12_rents_29 rfl rfl ?_
        refine zF_getR 33 dX12_rents_30 rfl gX12_15 hE.k0 hE.l0 (hE.f 7 6 10 (by decide)).1 ?_
        refine zF_iload_n 34 dX12_rents_33 rfl rfl ?_
        refine zF_aaldA 35 dX12_rents_34 rfl (hE.f 7 6 10 (by decide)).2.2 (hE.f 7 6 10 (by decide)).2.1 (by omega) (by omega) (hE.r7 _ (by omega) (by omega)).1 ?_
        refine zF_iconst 36 dX12_rents_35 rfl ?_
        refine zF_iaload 37 dX12_rents_36 rfl (hE.r7 _ (by omega) (by omega)).2.2 (hE.r7 _ (by omega) (by omega)).2.1 (by omega) (by omega) (hE.c7 _ _ (by omega) (by omega) (by omega) (by omega)) ?_
        refine zF_iadd 38 dX12_rents_37 rfl ?_
        refine zF_istore_n 39 (ls' := [(2, zI ((mRentN N h i) + (mS N (i : Int) 3))), (3, zI (i : Int)), (0, zR (E 0)), (1, zI h)]) dX12_rents_38 rfl (by decide) rfl ?_
        refine zF_iinc 42 (ls' := [(3, zI ((i : Int) + 1)), (2, zI ((mRentN N h i) + (mS N (i : Int) 3))), (0, zR (E 0)), (1, zI h)]) dX12_rents_39 rfl rfl rfl (by decide) rfl ?_
        refine zF_goto 4 dX12_rents_42 rfl ?_
        exact zF_locs (ls' := [(3, zI ((i + 1 : Nat) : Int)), (2, zI (mRentN N h (i + 1))), (0, zR (E 0)), (1, zI h)]) ⟨zlI rfl (by first | rfl | omega | (push_cast; omega) | exact congrArg (_ + ·) (zbT (by assumption)) | exact congrArg (_ + ·) (zbF (by assumption)) | exact congrArg (_ + ·) (zbT (by omega)) | exact congrArg (_ + ·) (zbF (by omega)) | exact congrArg (_ + ·) (if_pos (by omega)).symm | exact congrArg (_ + ·) (if_neg (by omega)).symm | exact (if_pos (by omega)).symm | exact (if_neg (by omega)).symm | exact zsub_s (if_pos (by omega)).symm | exact zsub_s0 (if_neg (by omega)).symm | exact zadd0 (if_neg (by omega)).symm | exact zadd0 (zbF (by omega)) | exact (Int.sub_zero _).symm), zlI rfl (by first | rfl | omega | (push_cast; omega) | exact congrArg (_ + ·) (zbT (by assumption)) | exact congrArg (_ + ·) (zbF (by assumption)) | exact congrArg (_ + ·) (zbT (by omega)) | exact congrArg (_ + ·) (zbF (by omega)) | exact congrArg (_ + ·) (if_pos (by omega)).symm | exact congrArg (_ + ·) (if_neg (by omega)).symm | exact (if_pos (by omega)).symm | exact (if_neg (by omega)).symm | exact zsub_s (if_pos (by omega)).symm | exact zsub_s0 (if_neg (by omega)).symm | exact zadd0 (if_neg (by omega)).symm | exact zadd0 (zbF (by omega)) | exact (Int.sub_zero _).symm), rfl, rfl, trivial⟩ ih4
      · refine zF_aload_n 17 dX12_rents_16 rfl rfl ?_
        refine zF_getR 20 dX12_rents_17 rfl gX12_15 hE.k0 hE.l0 (hE.f 7 6 10 (by decide)).1 ?_
        refine zF_iload_n 21 dX12_rents_20 rfl rfl ?_
        refine zF_aaldA 22 dX12_rents_21 rfl (hE.f 7 6 10 (by decide)).2.2 (hE.f 7 6 10 (by decide)).2.1 (by omega) (by omega) (hE.r7 _ (by omega) (by omega)).1 ?_
        refine zF_iconst 23 dX12_rents_22 rfl ?_
        refine zF_iaload 24 dX12_rents_23 rfl (hE.r7 _ (by omega) (by omega)).2.2 (hE.r7 _ (by omega) (by omega)).2.1 (by omega) (by omega) (hE.c7 _ _ (by omega) (by omega) (by omega) (by omega)) ?_
        refine zF_iload_n 25 dX12_rents_24 rfl rfl ?_
        refine zF_icmp_ne 39 28 dX12_rents_25 rfl rfl (by first | decide | assumption | exact hb _ | exact mSh_rg hb _ _ | exact zb_rg _ | (constructor <;> omega)) (by first | decide | assumption | exact hb _ | exact mSh_rg hb _ _ | exact zb_rg _ | (constructor <;> omega)) (fun c3 => ?_) (fun c3 => ?_)
        · refine zF_iinc 42 (ls' := [(3, zI ((i : Int) + 1)), (2, zI (mRentN N h i)), (0, zR (E 0)), (1, zI h)]) dX12_rents_39 rfl rfl rfl (by decide) rfl ?_
          refine zF_goto 4 dX12_rents_42 rfl ?_
          exact zF_locs (ls' := [(3, zI ((i + 1 : Nat) : Int)), (2, zI (mRentN N h (i + 1))), (0, zR (E 0)), (1, zI h)]) ⟨zlI rfl (by first | rfl | omega | (push_cast; omega) | exact congrArg (_ + ·) (zbT (by assumption)) | exact congrArg (_ + ·) (zbF (by assumption)) | exact congrArg (_ + ·) (zbT (by omega)) | exact congrArg (_ + ·) (zbF (by omega)) | exact congrArg (_ + ·) (if_pos (by omega)).symm | exact congrArg (_ + ·) (if_neg (by omega)).symm | exact (if_pos (by omega)).symm | exact (if_neg (by omega)).symm | exact zsub_s (if_pos (by omega)).symm | exact zsub_s0 (if_neg (by omega)).symm | exact zadd0 (if_neg (by omega)).symm | exact zadd0 (zbF (by omega)) | exact (Int.sub_zero _).symm), zlI rfl (by first | rfl | omega | (push_cast; omega) | exact congrArg (_ + ·) (zbT (by assumption)) | exact congrArg (_ + ·) (zbF (by assumption)) | exact congrArg (_ + ·) (zbT (by omega)) | exact congrArg (_ + ·) (zbF (by omega)) | exact congrArg (_ + ·) (if_pos (by omega)).symm | exact congrArg (_ + ·) (if_neg (by omega)).symm | exact (if_pos (by omega)).symm | exact (if_neg (by omega)).symm | exact zsub_s (if_pos (by omega)).symm | exact zsub_s0 (if_neg (by omega)).symm | exact zadd0 (if_neg (by omega)).symm | exact zadd0 (zbF (by omega)) | exact (Int.sub_zero _).symm), rfl, rfl, trivial⟩ ih4
        · refine zF_iload_n 29 dX12_rents_28 rfl rfl ?_
          refine zF_aload_n 30 dX12_rents_29 rfl rfl ?_
          refine zF_getR 33 dX12_rents_30 rfl gX12_15 hE.k0 hE.l0 (hE.f 7 6 10 (by decide)).1 ?_
          refine zF_iload_n 34 dX12_rents_33 rfl rfl ?_
          refine zF_aaldA 35 dX12_rents_34 rfl (hE.f 7 6 10 (by decide)).2.2 (hE.f 7 6 10 (by decide)).2.1 (by omega) (by omega) (hE.r7 _ (by omega) (by omega)).1 ?_
          refine zF_iconst 36 dX12_rents_35 rfl ?_
          refine zF_iaload 37 dX12_rents_36 rfl (hE.r7 _ (by omega) (by omega)).2.2 (hE.r7 _ (by omega) (by omega)).2.1 (by omega) (by omega) (hE.c7 _ _ (by omega) (by omega) (by omega) (by omega)) ?_
          refine zF_iadd 38 dX12_rents_37 rfl ?_
          refine zF_istore_n 39 (ls' := [(2, zI ((mRentN N h i) + (mS N (i : Int) 3))), (3, zI (i : Int)), (0, zR (E 0)), (1, zI h)]) dX12_rents_38 rfl (by decide) rfl ?_
          refine zF_iinc 42 (ls' := [(3, zI ((i : Int) + 1)), (2, zI ((mRentN N h i) + (mS N (i : Int) 3))), (0, zR (E 0)), (1, zI h)]) dX12_rents_39 rfl rfl rfl (by decide) rfl ?_
          refine zF_goto 4 dX12_rents_42 rfl ?_
          exact zF_locs (ls' := [(3, zI ((i + 1 : Nat) : Int)), (2, zI (mRentN N h (i + 1))), (0, zR (E 0)), (1, zI h)]) ⟨zlI rfl (by first | rfl | omega | (push_cast; omega) | exact congrArg (_ + ·) (zbT (by assumption)) | exact congrArg (_ + ·) (zbF (by assumption)) | exact congrArg (_ + ·) (zbT (by omega)) | exact congrArg (_ + ·) (zbF (by omega)) | exact congrArg (_ + ·) (if_pos (by omega)).symm | exact congrArg (_ + ·) (if_neg (by omega)).symm | exact (if_pos (by omega)).symm | exact (if_neg (by omega)).symm | exact zsub_s (if_pos (by omega)).symm | exact zsub_s0 (if_neg (by omega)).symm | exact zadd0 (if_neg (by omega)).symm | exact zadd0 (zbF (by omega)) | exact (Int.sub_zero _).symm), zlI rfl (by first | rfl | omega | (push_cast; omega) | exact congrArg (_ + ·) (zbT (by assumption)) | exact congrArg (_ + ·) (zbF (by assumption)) | exact congrArg (_ + ·) (zbT (by omega)) | exact congrArg (_ + ·) (zbF (by omega)) | exact congrArg (_ + ·) (if_pos (by omega)).symm | exact congrArg (_ + ·) (if_neg (by omega)).symm | exact (if_pos (by omega)).symm | exact (if_neg (by omega)).symm | exact zsub_s (if_pos (by omega)).symm | exact zsub_s0 (if_neg (by omega)).symm | exact zadd0 (if_neg (by omega)).symm | exact zadd0 (zbF (by omega)) | exact (Int.sub_zero _).symm), rfl, rfl, trivial⟩ ih4
  · show zF G mX12_rents d 4 [(3, zI (((nS N) : Nat) : Int)), (2, zI (mRentN N h (nS N))), (0, zR (E 0)), (1, zI h)] [] σ _
    refine zF_iload_n 5 dX12_rents_4 rfl rfl ?_
    refine zF_aload_n 6 dX12_rents_5 rfl rfl ?_
    refine zF_getI 9 dX12_rents_6 rfl gX12_39 (by decide) (by decide) hE.k0 hE.l0 hE.i1 ?_
    refine zF_icmp_ge 45 12 dX12_rents_9 rfl rfl (by first | decide | assumption | exact hb _ | exact mSh_rg hb _ _ | exact zb_rg _ | (constructor <;> omega)) (by first | decide | assumption | exact hb _ | exact mSh_rg hb _ _ | exact zb_rg _ | (constructor <;> omega)) (fun c4 => ?_) (fun c4 => ?_)
    · refine zF_iload_n 46 dX12_rents_45 rfl rfl ?_
      exact zF_iretP dX12_rents_46 rfl (rfl)
    · exact absurd c4 (by omega)
theorem zt_X12_need {h f : Int} (hE : eO N σ E) (hV : mV N) (zh : zrg h) (zf : zrg f) : zP1 G mX12_need (d + 2) [zR (E 0), zI h, zI f] σ (mNeed N h f) := by
  refine zE_of rfl (by simp [zcat]) (Nat.le_of_ble_eq_true rfl) ?_
  show zF G mX12_need (d + 2) 0 [(0, zR (E 0)), (1, zI h), (2, zI f)] [] σ _
  have hb := hV.b
  have hn := hV.n
  have hh := nS_eq hV
  refine zF_iconst 1 dX12_need_0 rfl ?_
  refine zF_istore_n 2 (ls' := [(3, zI 0), (0, zR (E 0)), (1, zI h), (2, zI f)]) dX12_need_1 rfl (by decide) rfl ?_
  refine zF_iconst 3 dX12_need_2 rfl ?_
  refine zF_istore 5 (ls' := [(4, zI 0), (3, zI 0), (0, zR (E 0)), (1, zI h), (2, zI f)]) dX12_need_3 rfl (by decide) rfl ?_
  refine zF_locs (ls' := (fun (i : Nat) => [(4, zI (i : Int)), (3, zI (mNeedN N h f i)), (0, zR (E 0)), (1, zI h), (2, zI f)]) 0) ⟨zlI rfl (by first | rfl | omega | (push_cast; omega) | exact congrArg (_ + ·) (zbT (by assumption)) | exact congrArg (_ + ·) (zbF (by assumption)) | exact congrArg (_ + ·) (zbT (by omega)) | exact congrArg (_ + ·) (zbF (by omega)) | exact congrArg (_ + ·) (if_pos (by omega)).symm | exact congrArg (_ + ·) (if_neg (by omega)).symm | exact (if_pos (by omega)).symm | exact (if_neg (by omega)).symm | exact zsub_s (if_pos (by omega)).symm | exact zsub_s0 (if_neg (by omega)).symm | exact zadd0 (if_neg (by omega)).symm | exact zadd0 (zbF (by omega)) | exact (Int.sub_zero _).symm), zlI rfl (by first | rfl | omega | (push_cast; omega) | exact congrArg (_ + ·) (zbT (by assumption)) | exact congrArg (_ + ·) (zbF (by assumption)) | exact congrArg (_ + ·) (zbT (by omega)) | exact congrArg (_ + ·) (zbF (by omega)) | exact congrArg (_ + ·) (if_pos (by omega)).symm | exact congrArg (_ + ·) (if_neg (by omega)).symm | exact (if_pos (by omega)).symm | exact (if_neg (by omega)).symm | exact zsub_s (if_pos (by omega)).symm | exact zsub_s0 (if_neg (by omega)).symm | exact zadd0 (if_neg (by omega)).symm | exact zadd0 (zbF (by omega)) | exact (Int.sub_zero _).symm), rfl, rfl, rfl, trivial⟩ ?_
  refine zF_loop (n := 7) (fun (i : Nat) => [(4, zI (i : Int)), (3, zI (mNeedN N h f i)), (0, zR (E 0)), (1, zI h), (2, zI f)]) (fun _ => σ) (fun i hi ih5 => ?_) ?_
  · show zF G mX12_need (d + 2) 5 [(4, zI (i : Int)), (3, zI (mNeedN N h f i)), (0, zR (E 0)), (1, zI h), (2, zI f)] [] σ _
    refine zF_iload 7 dX12_need_5 rfl rfl ?_
    refine zF_bipush 9 dX12_need_7 rfl (by decide) ?_
    refine zF_icmp_ge 81 12 dX12_need_9 rfl rfl (by first | decide | assumption | exact hb _ | exact mSh_rg hb _ _ | exact zb_rg _ | (constructor <;> omega)) (by first | decide | assumption | exact hb _ | exact mSh_rg hb _ _ | exact zb_rg _ | (constructor <;> omega)) (fun c1 => ?_) (fun c1 => ?_)
    · exact absurd c1 (by omega)
    · refine zF_iconst 13 dX12_need_12 rfl ?_
      refine zF_istore 15 (ls' := [(5, zI 0), (4, zI (i : Int)), (3, zI (mNeedN N h f i)), (0, zR (E 0)), (1, zI h), (2, zI f)]) dX12_need_13 rfl (by decide) rfl ?_
      refine zF_iconst 16 dX12_need_15 rfl ?_
      refine zF_istore 18 (ls' := [(6, zI 0), (5, zI 0), (4, zI (i : Int)), (3, zI (mNeedN N h f i)), (0, zR (E 0)), (1, zI h), (2, zI f)]) dX12_need_16 rfl (by decide) rfl ?_
      refine zF_locs (ls' := (fun (j : Nat) => [(6, zI (j : Int)), (5, zI (mCntN N h f (i : Int) j)), (4, zI (i : Int)), (3, zI (mNeedN N h f i)), (0, zR (E 0)), (1, zI h), (2, zI f)]) 0) ⟨zlI rfl (by first | rfl | omega | (push_cast; omega) | exact congrArg (_ + ·) (zbT (by assumption)) | exact congrArg (_ + ·) (zbF (by assumption)) | exact congrArg (_ + ·) (zbT (by omega)) | exact congrArg (_ + ·) (zbF (by omega)) | exact congrArg (_ + ·) (if_pos (by omega)).symm | exact congrArg (_ + ·) (if_neg (by omega)).symm | exact (if_pos (by omega)).symm | exact (if_neg (by omega)).symm | exact zsub_s (if_pos (by omega)).symm | exact zsub_s0 (if_neg (by omega)).symm | exact zadd0 (if_neg (by omega)).symm | exact zadd0 (zbF (by omega)) | exact (Int.sub_zero _).symm), zlI rfl (by first | rfl | omega | (push_cast; omega) | exact congrArg (_ + ·) (zbT (by assumption)) | exact congrArg (_ + ·) (zbF (by assumption)) | exact congrArg (_ + ·) (zbT (by omega)) | exact congrArg (_ + ·) (zbF (by omega)) | exact congrArg (_ + ·) (if_pos (by omega)).symm | exact congrArg (_ + ·) (if_neg (by omega)).symm | exact (if_pos (by omega)).symm | exact (if_neg (by omega)).symm | exact zsub_s (if_pos (by omega)).symm | exact zsub_s0 (if_neg (by omega)).symm | exact zadd0 (if_neg (by omega)).symm | exact zadd0 (zbF (by omega)) | exact (Int.sub_zero _).symm), rfl, rfl, rfl, rfl, rfl, trivial⟩ ?_
      refine zF_loop (n := (nS N)) (fun (j : Nat) => [(6, zI (j : Int)), (5, zI (mCntN N h f (i : Int) j)), (4, zI (i : Int)), (3, zI (mNeedN N h f i)), (0, zR (E 0)), (1, zI h), (2, zI f)]) (fun _ => σ) (fun j hj ih18 => ?_) ?_
      · show zF G mX12_need (d + 2) 18 [(6, zI (j : Int)), (5, zI (mCntN N h f (i : Int) j)), (4, zI (i : Int)), (3, zI (mNeedN N h f i)), (0, zR (E 0)), (1, zI h), (2, zI f)] [] σ _
        refine zF_iload 20 dX12_need_18 rfl rfl ?_
        refine zF_aload_n 21 dX12_need_20 rfl rfl ?_
        refine zF_getI 24 dX12_need_21 rfl gX12_39 (by decide) (by decide) hE.k0 hE.l0 hE.i1 ?_
        refine zF_icmp_ge 68 27 dX12_need_24 rfl rfl (by first | decide | assumption | exact hb _ | exact mSh_rg hb _ _ | exact zb_rg _ | (constructor <;> omega)) (by first | decide | assumption | exact hb _ | exact mSh_rg hb _ _ | exact zb_rg _ | (constructor <;> omega)) (fun c2 => ?_) (fun c2 => ?_)
        · exact absurd c2 (by omega)
        · refine zF_iload 29 dX12_need_27 rfl rfl ?_
          refine zF_aload_n 30 dX12_need_29 rfl rfl ?_
          refine zF_getR 33 dX12_need_30 rfl gX12_15 hE.k0 hE.l0 (hE.f 7 6 10 (by decide)).1 ?_
          refine zF_iload 35 dX12_need_33 rfl rfl ?_
          refine zF_aaldA 36 dX12_need_35 rfl (hE.f 7 6 10 (by decide)).2.2 (hE.f 7 6 10 (by decide)).2.1 (by omega) (by omega) (hE.r7 _ (by omega) (by omega)).1 ?_
          refine zF_iconst 37 dX12_need_36 rfl ?_
          refine zF_iaload 38 dX12_need_37 rfl (hE.r7 _ (by omega) (by omega)).2.2 (hE.r7 _ (by omega) (by omega)).2.1 (by omega) (by omega) (hE.c7 _ _ (by omega) (by omega) (by omega) (by omega)) ?_
          refine zF_iload_n 39 dX12_need_38 rfl rfl ?_
          refine zF_icmp_ne 58 42 dX12_need_39 rfl rfl (by first | decide | assumption | exact hb _ | exact mSh_rg hb _ _ | exact zb_rg _ | (constructor <;> omega)) (by first | decide | assumption | exact hb _ | exact mSh_rg hb _ _ | exact zb_rg _ | (constructor <;> omega)) (fun c3 => ?_) (fun c3 => ?_)
          · refine zF_iconst 59 dX12_need_58 rfl ?_
            refine zF_iadd 60 dX12_need_59 rfl ?_
            refine zF_istore 62 (ls' := [(5, zI ((mCntN N h f (i : Int) j) + 0)), (6, zI (j : Int)), (4, zI (i : Int)), (3, zI (mNeedN N h f i)), (0, zR (E 0)), (1, zI h), (2, zI f)]) dX12_need_60 rfl (by decide) rfl ?_
            refine zF_iinc 65 (ls' := [(6, zI ((j : Int) + 1)), (5, zI ((mCntN N h f (i : Int) j) + 0)), (4, zI (i : Int)), (3, zI (mNeedN N h f i)), (0, zR (E 0)), (1, zI h), (2, zI f)]) dX12_need_62 rfl rfl rfl (by decide) rfl ?_
            refine zF_goto 18 dX12_need_65 rfl ?_
            exact zF_locs (ls' := [(6, zI ((j + 1 : Nat) : Int)), (5, zI (mCntN N h f (i : Int) (j + 1))), (4, zI (i : Int)), (3, zI (mNeedN N h f i)), (0, zR (E 0)), (1, zI h), (2, zI f)]) ⟨zlI rfl (by first | rfl | omega | (push_cast; omega) | exact congrArg (_ + ·) (zbT (by assumption)) | exact congrArg (_ + ·) (zbF (by assumption)) | exact congrArg (_ + ·) (zbT (by omega)) | exact congrArg (_ + ·) (zbF (by omega)) | exact congrArg (_ + ·) (if_pos (by omega)).symm | exact congrArg (_ + ·) (if_neg (by omega)).symm | exact (if_pos (by omega)).symm | exact (if_neg (by omega)).symm | exact zsub_s (if_pos (by omega)).symm | exact zsub_s0 (if_neg (by omega)).symm | exact zadd0 (if_neg (by omega)).symm | exact zadd0 (zbF (by omega)) | exact (Int.sub_zero _).symm), zlI rfl (by first | rfl | omega | (push_cast; omega) | exact congrArg (_ + ·) (zbT (by assumption)) | exact congrArg (_ + ·) (zbF (by assumption)) | exact congrArg (_ + ·) (zbT (by omega)) | exact congrArg (_ + ·) (zbF (by omega)) | exact congrArg (_ + ·) (if_pos (by omega)).symm | exact congrArg (_ + ·) (if_neg (by omega)).symm | exact (if_pos (by omega)).symm | exact (if_neg (by omega)).symm | exact zsub_s (if_pos (by omega)).symm | exact zsub_s0 (if_neg (by omega)).symm | exact zadd0 (if_neg (by omega)).symm | exact zadd0 (zbF (by omega)) | exact (Int.sub_zero _).symm), rfl, rfl, rfl, rfl, rfl, trivial⟩ ih18
          · refine zF_aload_n 43 dX12_need_42 rfl rfl ?_
            refine zF_iload 45 dX12_need_43 rfl rfl ?_
            refine zF_iload 47 dX12_need_45 rfl rfl ?_
            refine zF_callVi 50 (d2 := (d + 1)) (as := [zI (j : Int), zI (i : Int)]) dX12_need_47 rfl kX12_62 iX12_shown (ci := 12) rfl eX12_shown (Nat.le_refl _) hE.k0 hE.l0 rfl rfl (Nat.le_of_ble_eq_true rfl) (zt_X12_shown hE hV (by omega) (by omega) (by first | decide | assumption | exact hb _ | exact mSh_rg hb _ _ | exact zb_rg _ | (constructor <;> omega))) ?_
            refine zF_iload_n 51 dX12_need_50 rfl rfl ?_
            refine zF_icmp_ne 58 54 dX12_need_51 rfl rfl (by first | decide | assumption | exact hb _ | exact mSh_rg hb _ _ | exact zb_rg _ | (constructor <;> omega)) (by first | decide | assumption | exact hb _ | exact mSh_rg hb _ _ | exact zb_rg _ | (constructor <;> omega)) (fun c4 => ?_) (fun c4 => ?_)
            · refine zF_iconst 59 dX12_need_58 rfl ?_
              refine zF_iadd 60 dX12_need_59 rfl ?_
              refine zF_istore 62 (ls' := [(5, zI ((mCntN N h f (i : Int) j) + 0)), (6, zI (j : Int)), (4, zI (i : Int)), (3, zI (mNeedN N h f i)), (0, zR (E 0)), (1, zI h), (2, zI f)]) dX12_need_60 rfl (by decide) rfl ?_
              refine zF_iinc 65 (ls' := [(6, zI ((j : Int) + 1)), (5, zI ((mCntN N h f (i : Int) j) + 0)), (4, zI (i : Int)), (3, zI (mNeedN N h f i)), (0, zR (E 0)), (1, zI h), (2, zI f)]) dX12_need_62 rfl rfl rfl (by decide) rfl ?_
              refine zF_goto 18 dX12_need_65 rfl ?_
              exact zF_locs (ls' := [(6, zI ((j + 1 : Nat) : Int)), (5, zI (mCntN N h f (i : Int) (j + 1))), (4, zI (i : Int)), (3, zI (mNeedN N h f i)), (0, zR (E 0)), (1, zI h), (2, zI f)]) ⟨zlI rfl (by first | rfl | omega | (push_cast; omega) | exact congrArg (_ + ·) (zbT (by assumption)) | exact congrArg (_ + ·) (zbF (by assumption)) | exact congrArg (_ + ·) (zbT (by omega)) | exact congrArg (_ + ·) (zbF (by omega)) | exact congrArg (_ + ·) (if_pos (by omega)).symm | exact congrArg (_ + ·) (if_neg (by omega)).symm | exact (if_pos (by omega)).symm | exact (if_neg (by omega)).symm | exact zsub_s (if_pos (by omega)).symm | exact zsub_s0 (if_neg (by omega)).symm | exact zadd0 (if_neg (by omega)).symm | exact zadd0 (zbF (by omega)) | exact (Int.sub_zero _).symm), zlI rfl (by first | rfl | omega | (push_cast; omega) | exact congrArg (_ + ·) (zbT (by assumption)) | exact congrArg (_ + ·) (zbF (by assumption)) | exact congrArg (_ + ·) (zbT (by omega)) | exact congrArg (_ + ·) (zbF (by omega)) | exact congrArg (_ + ·) (if_pos (by omega)).symm | exact congrArg (_ + ·) (if_neg (by omega)).symm | exact (if_pos (by omega)).symm | exact (if_neg (by omega)).symm | exact zsub_s (if_pos (by omega)).symm | exact zsub_s0 (if_neg (by omega)).symm | exact zadd0 (if_neg (by omega)).symm | exact zadd0 (zbF (by omega)) | exact (Int.sub_zero _).symm), rfl, rfl, rfl, rfl, rfl, trivial⟩ ih18
            · refine zF_iconst 55 dX12_need_54 rfl ?_
              refine zF_goto 59 dX12_need_55 rfl ?_
              refine zF_iadd 60 dX12_need_59 rfl ?_
              refine zF_istore 62 (ls' := [(5, zI ((mCntN N h f (i : Int) j) + 1)), (6, zI (j : Int)), (4, zI (i : Int)), (3, zI (mNeedN N h f i)), (0, zR (E 0)), (1, zI h), (2, zI f)]) dX12_need_60 rfl (by decide) rfl ?_
              refine zF_iinc 65 (ls' := [(6, zI ((j : Int) + 1)), (5, zI ((mCntN N h f (i : Int) j) + 1)), (4, zI (i : Int)), (3, zI (mNeedN N h f i)), (0, zR (E 0)), (1, zI h), (2, zI f)]) dX12_need_62 rfl rfl rfl (by decide) rfl ?_
              refine zF_goto 18 dX12_need_65 rfl ?_
              exact zF_locs (ls' := [(6, zI ((j + 1 : Nat) : Int)), (5, zI (mCntN N h f (i : Int) (j + 1))), (4, zI (i : Int)), (3, zI (mNeedN N h f i)), (0, zR (E 0)), (1, zI h), (2, zI f)]) ⟨zlI rfl (by first | rfl | omega | (push_cast; omega) | exact congrArg (_ + ·) (zbT (by assumption)) | exact congrArg (_ + ·) (zbF (by assumption)) | exact congrArg (_ + ·) (zbT (by omega)) | exact congrArg (_ + ·) (zbF (by omega)) | exact congrArg (_ + ·) (if_pos (by omega)).symm | exact congrArg (_ + ·) (if_neg (by omega)).symm | exact (if_pos (by omega)).symm | exact (if_neg (by omega)).symm | exact zsub_s (if_pos (by omega)).symm | exact zsub_s0 (if_neg (by omega)).symm | exact zadd0 (if_neg (by omega)).symm | exact zadd0 (zbF (by omega)) | exact (Int.sub_zero _).symm), zlI rfl (by first | rfl | omega | (push_cast; omega) | exact congrArg (_ + ·) (zbT (by assumption)) | exact congrArg (_ + ·) (zbF (by assumption)) | exact congrArg (_ + ·) (zbT (by omega)) | exact congrArg (_ + ·) (zbF (by omega)) | exact congrArg (_ + ·) (if_pos (by omega)).symm | exact congrArg (_ + ·) (if_neg (by omega)).symm | exact (if_pos (by omega)).symm | exact (if_neg (by omega)).symm | exact zsub_s (if_pos (by omega)).symm | exact zsub_s0 (if_neg (by omega)).symm | exact zadd0 (if_neg (by omega)).symm | exact zadd0 (zbF (by omega)) | exact (Int.sub_zero _).symm), rfl, rfl, rfl, rfl, rfl, trivial⟩ ih18
      · show zF G mX12_need (d + 2) 18 [(6, zI (((nS N) : Nat) : Int)), (5, zI (mCntN N h f (i : Int) (nS N))), (4, zI (i : Int)), (3, zI (mNeedN N h f i)), (0, zR (E 0)), (1, zI h), (2, zI f)] [] σ _
        refine zF_iload 20 dX12_need_18 rfl rfl ?_
        refine zF_aload_n 21 dX12_need_20 rfl rfl ?_
        refine zF_getI 24 dX12_need_21 rfl gX12_39 (by decide) (by decide) hE.k0 hE.l0 hE.i1 ?_
        refine zF_icmp_ge 68 27 dX12_need_24 rfl rfl (by first | decide | assumption | exact hb _ | exact mSh_rg hb _ _ | exact zb_rg _ | (constructor <;> omega)) (by first | decide | assumption | exact hb _ | exact mSh_rg hb _ _ | exact zb_rg _ | (constructor <;> omega)) (fun c5 => ?_) (fun c5 => ?_)
        · refine zF_iload_n 69 dX12_need_68 rfl rfl ?_
          refine zF_iload 71 dX12_need_69 rfl rfl ?_
          have hm1 := mNeed_b hV h f i
          have hm2 := mCnt_b hV h f (i : Int)
          change 0 ≤ mCntN N h f (i : Int) (nS N) ∧ mCntN N h f (i : Int) (nS N) ≤ 10 at hm2
          refine zF_max 74 dX12_need_71 rfl kX12_77 (Nat.le_refl _) (by first | decide | assumption | exact hb _ | exact mSh_rg hb _ _ | exact zb_rg _ | (constructor <;> omega)) (by first | decide | assumption | exact hb _ | exact mSh_rg hb _ _ | exact zb_rg _ | (constructor <;> omega)) (Nat.le_of_ble_eq_true rfl) ?_
          refine zF_istore_n 75 (ls' := [(3, zI (max (mNeedN N h f i) (mCntN N h f (i : Int) (nS N)))), (6, zI (((nS N) : Nat) : Int)), (5, zI (mCntN N h f (i : Int) (nS N))), (4, zI (i : Int)), (0, zR (E 0)), (1, zI h), (2, zI f)]) dX12_need_74 rfl (by decide) rfl ?_
          refine zF_iinc 78 (ls' := [(4, zI ((i : Int) + 1)), (3, zI (max (mNeedN N h f i) (mCntN N h f (i : Int) (nS N)))), (6, zI (((nS N) : Nat) : Int)), (5, zI (mCntN N h f (i : Int) (nS N))), (0, zR (E 0)), (1, zI h), (2, zI f)]) dX12_need_75 rfl rfl rfl (by decide) rfl ?_
          refine zF_goto 5 dX12_need_78 rfl ?_
          exact zF_locs (ls' := [(4, zI ((i + 1 : Nat) : Int)), (3, zI (mNeedN N h f (i + 1))), (0, zR (E 0)), (1, zI h), (2, zI f)]) ⟨zlI rfl (by first | rfl | omega | (push_cast; omega) | exact congrArg (_ + ·) (zbT (by assumption)) | exact congrArg (_ + ·) (zbF (by assumption)) | exact congrArg (_ + ·) (zbT (by omega)) | exact congrArg (_ + ·) (zbF (by omega)) | exact congrArg (_ + ·) (if_pos (by omega)).symm | exact congrArg (_ + ·) (if_neg (by omega)).symm | exact (if_pos (by omega)).symm | exact (if_neg (by omega)).symm | exact zsub_s (if_pos (by omega)).symm | exact zsub_s0 (if_neg (by omega)).symm | exact zadd0 (if_neg (by omega)).symm | exact zadd0 (zbF (by omega)) | exact (Int.sub_zero _).symm), zlI rfl (by first | rfl | omega | (push_cast; omega) | exact congrArg (_ + ·) (zbT (by assumption)) | exact congrArg (_ + ·) (zbF (by assumption)) | exact congrArg (_ + ·) (zbT (by omega)) | exact congrArg (_ + ·) (zbF (by omega)) | exact congrArg (_ + ·) (if_pos (by omega)).symm | exact congrArg (_ + ·) (if_neg (by omega)).symm | exact (if_pos (by omega)).symm | exact (if_neg (by omega)).symm | exact zsub_s (if_pos (by omega)).symm | exact zsub_s0 (if_neg (by omega)).symm | exact zadd0 (if_neg (by omega)).symm | exact zadd0 (zbF (by omega)) | exact (Int.sub_zero _).symm), rfl, rfl, rfl, trivial⟩ ih5
        · exact absurd c5 (by omega)
  · show zF G mX12_need (d + 2) 5 [(4, zI ((7 : Nat) : Int)), (3, zI (mNeedN N h f 7)), (0, zR (E 0)), (1, zI h), (2, zI f)] [] σ _
    refine zF_iload 7 dX12_need_5 rfl rfl ?_
    refine zF_bipush 9 dX12_need_7 rfl (by decide) ?_
    refine zF_icmp_ge 81 12 dX12_need_9 rfl rfl (by first | decide | assumption | exact hb _ | exact mSh_rg hb _ _ | exact zb_rg _ | (constructor <;> omega)) (by first | decide | assumption | exact hb _ | exact mSh_rg hb _ _ | exact zb_rg _ | (constructor <;> omega)) (fun c6 => ?_) (fun c6 => ?_)
    · refine zF_iload_n 82 dX12_need_81 rfl rfl ?_
      exact zF_iretP dX12_need_82 rfl (rfl)
    · exact absurd c6 (by omega)
end ZE1

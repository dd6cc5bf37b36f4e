/-! the reference: its tokens -/
section ZMT
variable {G : zG} {d : Nat} {σ σ0 : zMem} {hm : Nat} {A : Nat → Nat} {t : Int → Int} {L : Nat} {s : tS}
/-- the text that the reference holds -/
def mTx (σ : zMem) (A : Nat → Nat) (t : Int → Int) (L : Nat) : Prop := L ≤ 700 ∧ ∀ j : Int, 0 ≤ j → j < (L : Int) → zia σ (A 18) j = t j % 256 ∧ -128 ≤ t j ∧ t j < 128
theorem mTx_si {j v : Int} (hM : zMo σ hm A) (h : mTx σ A t L) : mTx (zsi σ hm j v) A t L := ⟨h.1, fun i a b => by rw [congrFun (zMo_hN (k := 18) rfl hM (by decide) zMo_h1) i]; exact h.2 i a b⟩
theorem mTx_fr {P : Nat → Int → Prop} {σ1 : zMem} (h : mTx σ A t L) (f : zFr P σ σ1) (n : ∀ j, ¬ P (A 18) j) : mTx σ1 A t L := ⟨h.1, fun i a b => by rw [congrFun (f.at n) i]; exact h.2 i a b⟩
/-- what scanning may change -/
def mPs (hm : Nat) (h : Nat) (j : Int) : Prop := h = hm ∧ 21 ≤ j ∧ j ≤ 23
def mPt (hm : Nat) (h : Nat) (j : Int) : Prop := h = hm ∧ 20 ≤ j ∧ j ≤ 25
/-- and how deep a text is nested -/
def mP7 (hm : Nat) (h : Nat) (j : Int) : Prop := h = hm ∧ 20 ≤ j ∧ j ≤ 27
theorem mPs_t {σ1 : zMem} (f : zFr (mPs hm) σ σ1) : zFr (mPt hm) σ σ1 := f.wk fun _ _ q => ⟨q.1, by have := q.2; omega⟩
theorem mPt_A {σ1 : zMem} (hM : zMo σ hm A) (f : zFr (mPt hm) σ σ1) {k : Nat} (hk : k ∈ zmf.map (·.1)) : zia σ1 (A k) = zia σ (A k) := f.at fun j q => zMo_hm1 hM hk zMo_h1 q.1
theorem mTx_s {σ1 : zMem} (hM : zMo σ hm A) (h : mTx σ A t L) (f : zFr (mPs hm) σ σ1) : mTx σ1 A t L := mTx_fr h f fun j q => zMo_hm1 hM (k := 18) (by decide) zMo_h1 q.1
theorem mTx_t {σ1 : zMem} (hM : zMo σ hm A) (h : mTx σ A t L) (f : zFr (mPt hm) σ σ1) : mTx σ1 A t L := mTx_fr h f fun j q => zMo_hm1 hM (k := 18) (by decide) zMo_h1 q.1
theorem mPs_o {σ1 : zMem} {k v : Int} (f : zFr (mPs hm) σ σ1) (hk : k < 21 ∨ 23 < k) (e : zia σ hm k = v) : zia σ1 hm k = v := (f.2.2.2.2.2 _ _ fun q => by have := q.2; omega).trans e
theorem mPs_7 {σ1 : zMem} (f : zFr (mPs hm) σ σ1) : zFr (mP7 hm) σ σ1 := f.wk fun _ _ q => ⟨q.1, by have := q.2; omega⟩
theorem mP7_A {σ1 : zMem} (hM : zMo σ hm A) (f : zFr (mP7 hm) σ σ1) {k : Nat} (hk : k ∈ zmf.map (·.1)) : zia σ1 (A k) = zia σ (A k) := f.at fun j q => zMo_hm1 hM hk zMo_h1 q.1
theorem mTx_7 {σ1 : zMem} (hM : zMo σ hm A) (h : mTx σ A t L) (f : zFr (mP7 hm) σ σ1) : mTx σ1 A t L := mTx_fr h f fun j q => zMo_hm1 hM (k := 18) (by decide) zMo_h1 q.1
theorem mP7_o {σ1 : zMem} {k v : Int} (f : zFr (mP7 hm) σ σ1) (hk : k < 20 ∨ 27 < k) (e : zia σ hm k = v) : zia σ1 hm k = v := (f.2.2.2.2.2 _ _ fun q => by have := q.2; omega).trans e
theorem mPt_o {σ1 : zMem} {k v : Int} (f : zFr (mPt hm) σ σ1) (hk : k < 20 ∨ 25 < k) (e : zia σ hm k = v) : zia σ1 hm k = v := (f.2.2.2.2.2 _ _ fun q => by have := q.2; omega).trans e
/-- the byte at a place, as the reference sees it -/
def mBy (t : Int → Int) (L : Nat) (q : Int) : Int := if q < L then t q % 256 else -1
theorem mBy_W {q : Nat} (hb : ∀ j : Int, 0 ≤ j → j < (L : Int) → -128 ≤ t j ∧ t j < 128) : (mBy t L q = 32 ∨ mBy t L q = 10) ↔ q < L ∧ tW (t q) = true := by
  unfold mBy
  rw [tW_i]
  by_cases c : (q : Int) < L
  · rw [if_pos c]
    have := hb q (by omega) c
    constructor
    · intro h; exact ⟨by omega, by omega⟩
    · intro h; have := h.2; omega
  · rw [if_neg c]
    constructor
    · intro h; omega
    · intro h; have := h.1; omega
theorem mBy_A {q : Nat} (hb : ∀ j : Int, 0 ≤ j → j < (L : Int) → -128 ≤ t j ∧ t j < 128) : (97 ≤ mBy t L q ∧ mBy t L q ≤ 122) ↔ q < L ∧ tA (t q) = true := by
  unfold mBy
  rw [tA_i]
  by_cases c : (q : Int) < L
  · rw [if_pos c]
    have := hb q (by omega) c
    constructor
    · intro h; exact ⟨by omega, by omega⟩
    · intro h; have := h.2; omega
  · rw [if_neg c]
    constructor
    · intro h; omega
    · intro h; have := h.1; omega
theorem mBy_D {q : Nat} (hb : ∀ j : Int, 0 ≤ j → j < (L : Int) → -128 ≤ t j ∧ t j < 128) : (48 ≤ mBy t L q ∧ mBy t L q ≤ 57) ↔ q < L ∧ tD (t q) = true := by
  unfold mBy
  rw [tD_i]
  by_cases c : (q : Int) < L
  · rw [if_pos c]
    have := hb q (by omega) c
    constructor
    · intro h; exact ⟨by omega, by omega⟩
    · intro h; have := h.2; omega
  · rw [if_neg c]
    constructor
    · intro h; omega
    · intro h; have := h.1; omega
theorem mTx.b (h : mTx σ A t L) : ∀ j : Int, 0 ≤ j → j < (L : Int) → -128 ≤ t j ∧ t j < 128 := fun j a b => (h.2 j a b).2
theorem mBy_rg {q : Int} : zrg (mBy t L q) := by
  unfold mBy
  split
  · constructor <;> omega
  · decide
/-- the reference's fields at a reading's state -/
def mTs (σ : zMem) (hm : Nat) (t : Int → Int) (L : Nat) (s : tS) : Prop := s.1 ≤ L ∧ zia σ hm ((20 : Nat) : Int) = (L : Int) ∧ zia σ hm ((21 : Nat) : Int) = ((te t L s.1 : Nat) : Int) ∧ zia σ hm ((22 : Nat) : Int) = ((tbg t L s.1 : Nat) : Int) ∧ zia σ hm ((23 : Nat) : Int) = tk t L s.1 ∧ zia σ hm ((24 : Nat) : Int) = s.2 ∧ (s.2 ≠ 0 → zia σ hm ((25 : Nat) : Int) = ((tbg t L s.1 : Nat) : Int)) ∧ 0 ≤ s.2 ∧ s.2 ≤ 100
theorem zt_X12_byteAt {q : Int} (hM : zMo σ hm A) (hx : mTx σ A t L) (hL : zia σ hm ((20 : Nat) : Int) = (L : Int)) (q0 : 0 ≤ q) (q1 : q ≤ 700) : zP1 G mX12_byteAt d [zR hm, zI q] σ (mBy t L q) := by
  refine zE_of rfl (by simp [zcat]) (Nat.le_of_ble_eq_true rfl) ?_
  show zF G mX12_byteAt d 0 [(0, zR hm), (1, zI q)] [] σ _
  have hl7 := hx.1
  refine zF_iload_n 1 dX12_byteAt_0 rfl rfl ?_
  refine zF_aload_n 2 dX12_byteAt_1 rfl rfl ?_
  refine zF_getI 5 dX12_byteAt_2 rfl gX12_342 (by decide) (by decide) hM.1 hM.2.1 hL ?_
  refine zF_icmp_ge 17 8 dX12_byteAt_5 rfl rfl (by first | decide | assumption | exact mBy_rg | (constructor <;> omega)) (by first | decide | assumption | exact mBy_rg | (constructor <;> omega)) (fun c1 => ?_) (fun c1 => ?_)
  · refine zF_iconst 18 dX12_byteAt_17 rfl ?_
    exact zF_iretP dX12_byteAt_18 rfl (by unfold mBy; first | rw [if_pos (by omega)] | rw [if_neg (by omega)])
  · refine zF_aload_n 9 dX12_byteAt_8 rfl rfl ?_
    refine zF_getR 12 dX12_byteAt_9 rfl gX12_47 hM.1 hM.2.1 (zM_18 hM).1 ?_
    refine zF_iload_n 13 dX12_byteAt_12 rfl rfl ?_
    refine zF_iaload 14 dX12_byteAt_13 rfl (zM_18 hM).2.2 (zM_18 hM).2.1 (by omega) (by omega) (hx.2 _ (by omega) (by omega)).1 ?_
    refine zF_goto 18 dX12_byteAt_14 rfl ?_
    exact zF_iretP dX12_byteAt_18 rfl (by unfold mBy; first | rw [if_pos (by omega)] | rw [if_neg (by omega)])
theorem zt_X12_isLetter {x : Nat} (hM : zMo σ hm A) (hx : mTx σ A t L) (hL : zia σ hm ((20 : Nat) : Int) = (L : Int)) (q1 : x ≤ 700) : zP1 G mX12_isLetter (d + 1) [zR hm, zI (x : Int)] σ (zb (x < L ∧ tA (t x) = true)) := by
  refine zE_of rfl (by simp [zcat]) (Nat.le_of_ble_eq_true rfl) ?_
  show zF G mX12_isLetter (d + 1) 0 [(0, zR hm), (1, zI (x : Int))] [] σ _
  refine zF_aload_n 1 dX12_isLetter_0 rfl rfl ?_
  refine zF_iload_n 2 dX12_isLetter_1 rfl rfl ?_
  refine zF_callVi 5 (d2 := d) (as := [zI (x : Int)]) dX12_isLetter_2 rfl kX12_345 iX12_byteAt (ci := 12) rfl eX12_byteAt (Nat.le_refl _) hM.1 hM.2.1 rfl rfl (Nat.le_of_ble_eq_true rfl) (zt_X12_byteAt (σ := σ) hM hx hL (by omega) (by omega)) ?_
  refine zF_bipush 7 dX12_isLetter_5 rfl (by decide) ?_
  refine zF_icmp_lt 24 10 dX12_isLetter_7 rfl rfl (by first | decide | assumption | exact mBy_rg | (constructor <;> omega)) (by first | decide | assumption | exact mBy_rg | (constructor <;> omega)) (fun c1 => ?_) (fun c1 => ?_)
  · refine zF_iconst 25 dX12_isLetter_24 rfl ?_
    exact zF_zretP dX12_isLetter_25 rfl (by decide) (by first | exact zbT ((mBy_A hx.b).mp ⟨by omega, by omega⟩) | exact zbF (fun z => by have := (mBy_A hx.b).mpr z; omega))
  · refine zF_aload_n 11 dX12_isLetter_10 rfl rfl ?_
    refine zF_iload_n 12 dX12_isLetter_11 rfl rfl ?_
    refine zF_callVi 15 (d2 := d) (as := [zI (x : Int)]) dX12_isLetter_12 rfl kX12_345 iX12_byteAt (ci := 12) rfl eX12_byteAt (Nat.le_refl _) hM.1 hM.2.1 rfl rfl (Nat.le_of_ble_eq_true rfl) (zt_X12_byteAt (σ := σ) hM hx hL (by omega) (by omega)) ?_
    refine zF_bipush 17 dX12_isLetter_15 rfl (by decide) ?_
    refine zF_icmp_gt 24 20 dX12_isLetter_17 rfl rfl (by first | decide | assumption | exact mBy_rg | (constructor <;> omega)) (by first | decide | assumption | exact mBy_rg | (constructor <;> omega)) (fun c2 => ?_) (fun c2 => ?_)
    · refine zF_iconst 25 dX12_isLetter_24 rfl ?_
      exact zF_zretP dX12_isLetter_25 rfl (by decide) (by first | exact zbT ((mBy_A hx.b).mp ⟨by omega, by omega⟩) | exact zbF (fun z => by have := (mBy_A hx.b).mpr z; omega))
    · refine zF_iconst 21 dX12_isLetter_20 rfl ?_
      refine zF_goto 25 dX12_isLetter_21 rfl ?_
      exact zF_zretP dX12_isLetter_25 rfl (by decide) (by first | exact zbT ((mBy_A hx.b).mp ⟨by omega, by omega⟩) | exact zbF (fun z => by have := (mBy_A hx.b).mpr z; omega))
theorem zt_X12_isDigit {x : Nat} (hM : zMo σ hm A) (hx : mTx σ A t L) (hL : zia σ hm ((20 : Nat) : Int) = (L : Int)) (q1 : x ≤ 700) : zP1 G mX12_isDigit (d + 1) [zR hm, zI (x : Int)] σ (zb (x < L ∧ tD (t x) = true)) := by
  refine zE_of rfl (by simp [zcat]) (Nat.le_of_ble_eq_true rfl) ?_
  show zF G mX12_isDigit (d + 1) 0 [(0, zR hm), (1, zI (x : Int))] [] σ _
  refine zF_aload_n 1 dX12_isDigit_0 rfl rfl ?_
  refine zF_iload_n 2 dX12_isDigit_1 rfl rfl ?_
  refine zF_callVi 5 (d2 := d) (as := [zI (x : Int)]) dX12_isDigit_2 rfl kX12_345 iX12_byteAt (ci := 12) rfl eX12_byteAt (Nat.le_refl _) hM.1 hM.2.1 rfl rfl (Nat.le_of_ble_eq_true rfl) (zt_X12_byteAt (σ := σ) hM hx hL (by omega) (by omega)) ?_
  refine zF_bipush 7 dX12_isDigit_5 rfl (by decide) ?_
  refine zF_icmp_lt 24 10 dX12_isDigit_7 rfl rfl (by first | decide | assumption | exact mBy_rg | (constructor <;> omega)) (by first | decide | assumption | exact mBy_rg | (constructor <;> omega)) (fun c1 => ?_) (fun c1 => ?_)
  · refine zF_iconst 25 dX12_isDigit_24 rfl ?_
    exact zF_zretP dX12_isDigit_25 rfl (by decide) (by first | exact zbT ((mBy_D hx.b).mp ⟨by omega, by omega⟩) | exact zbF (fun z => by have := (mBy_D hx.b).mpr z; omega))
  · refine zF_aload_n 11 dX12_isDigit_10 rfl rfl ?_
    refine zF_iload_n 12 dX12_isDigit_11 rfl rfl ?_
    refine zF_callVi 15 (d2 := d) (as := [zI (x : Int)]) dX12_isDigit_12 rfl kX12_345 iX12_byteAt (ci := 12) rfl eX12_byteAt (Nat.le_refl _) hM.1 hM.2.1 rfl rfl (Nat.le_of_ble_eq_true rfl) (zt_X12_byteAt (σ := σ) hM hx hL (by omega) (by omega)) ?_
    refine zF_bipush 17 dX12_isDigit_15 rfl (by decide) ?_
    refine zF_icmp_gt 24 20 dX12_isDigit_17 rfl rfl (by first | decide | assumption | exact mBy_rg | (constructor <;> omega)) (by first | decide | assumption | exact mBy_rg | (constructor <;> omega)) (fun c2 => ?_) (fun c2 => ?_)
    · refine zF_iconst 25 dX12_isDigit_24 rfl ?_
      exact zF_zretP dX12_isDigit_25 rfl (by decide) (by first | exact zbT ((mBy_D hx.b).mp ⟨by omega, by omega⟩) | exact zbF (fun z => by have := (mBy_D hx.b).mpr z; omega))
    · refine zF_iconst 21 dX12_isDigit_20 rfl ?_
      refine zF_goto 25 dX12_isDigit_21 rfl ?_
      exact zF_zretP dX12_isDigit_25 rfl (by decide) (by first | exact zbT ((mBy_D hx.b).mp ⟨by omega, by omega⟩) | exact zbF (fun z => by have := (mBy_D hx.b).mpr z; omega))
theorem zt_X12_scan {q : Nat} (hM : zMo σ hm A) (hx : mTx σ A t L) (hL : zia σ hm ((20 : Nat) : Int) = (L : Int)) (hq : q ≤ L) (h21 : zia σ hm ((21 : Nat) : Int) = (q : Int)) : zE G mX12_scan (d + 2) [zR hm] σ (fun ro σ1 => ro = .inl none ∧ zFr (mPs hm) σ σ1 ∧ zia σ1 hm ((21 : Nat) : Int) = ((te t L q : Nat) : Int) ∧ zia σ1 hm ((22 : Nat) : Int) = ((tbg t L q : Nat) : Int) ∧ zia σ1 hm ((23 : Nat) : Int) = tk t L q) := by
  refine zE_of rfl (by simp [zcat]) (Nat.le_of_ble_eq_true rfl) ?_
  show zF G mX12_scan (d + 2) 0 [(0, zR hm)] [] σ _
  have hl7 := hx.1
  refine zF_locs (ls' := [(0, zR hm)]) ⟨rfl, trivial⟩ ?_
  refine zF_while (X := Nat) (fun x => L - x) (fun x σ2 => q ≤ x ∧ x ≤ L ∧ zFr (mPs hm) σ σ2 ∧ zia σ2 hm ((21 : Nat) : Int) = (x : Int) ∧ zrun tW t L q = zrun tW t L x) (fun x => [(0, zR hm)]) ?_ q σ (⟨Nat.le_refl _, by omega, zFr.rf, h21, rfl⟩)
  intro x σ2 hI0 ih0
  show zF G mX12_scan (d + 2) 0 [(0, zR hm)] [] σ2 _
  obtain ⟨hx0, hx1, f2, g2, ez2⟩ := hI0
  have hM2 := zMo_f2 f2 hM
  have hx2 := mTx_s hM hx f2
  have hL2 := mPs_o f2 (by omega) hL
  refine zF_aload_n 1 dX12_scan_0 rfl rfl ?_
  refine zF_aload_n 2 dX12_scan_1 rfl rfl ?_
  refine zF_getI 5 dX12_scan_2 rfl gX12_348 (by decide) (by decide) hM2.1 hM2.2.1 g2 ?_
  refine zF_callVi 8 (d2 := (d + 1)) (as := [zI (x : Int)]) dX12_scan_5 rfl kX12_345 iX12_byteAt (ci := 12) rfl eX12_byteAt (Nat.le_refl _) hM2.1 hM2.2.1 rfl rfl (Nat.le_of_ble_eq_true rfl) (zt_X12_byteAt (σ := σ2) hM2 hx2 hL2 (by omega) (by omega)) ?_
  refine zF_bipush 10 dX12_scan_8 rfl (by decide) ?_
  refine zF_icmp_eq 26 13 dX12_scan_10 rfl rfl (by first | decide | assumption | exact mBy_rg | (constructor <;> omega)) (by first | decide | assumption | exact mBy_rg | (constructor <;> omega)) (fun c1 => ?_) (fun c1 => ?_)
  · have hp2 : x < L ∧ tW (t x) = true := (mBy_W hx.b).mp (by omega)
    refine zF_aload_n 27 dX12_scan_26 rfl rfl ?_
    refine zF_dup 28 dX12_scan_27 rfl rfl ?_
    refine zF_getI 31 dX12_scan_28 rfl gX12_348 (by decide) (by decide) hM2.1 hM2.2.1 g2 ?_
    refine zF_iconst 32 dX12_scan_31 rfl ?_
    refine zF_iadd 33 dX12_scan_32 rfl ?_
    refine zF_putI 36 dX12_scan_33 rfl pX12_scan_348 (Or.inl rfl) hM2.1 hM2.2.1 ?_
    refine zF_goto 0 dX12_scan_36 rfl ?_
    exact zF_locs (ls' := [(0, zR hm)]) ⟨rfl, trivial⟩ (ih0 (x + 1) _ (by omega) (⟨by omega, by omega, (zFr_si ⟨rfl, by decide, by decide⟩ f2), (zsi_same _ _ _ _).trans (by push_cast; rfl), ez2.trans (zrun_s hp2.1 hp2.2)⟩))
  · refine zF_aload_n 14 dX12_scan_13 rfl rfl ?_
    refine zF_aload_n 15 dX12_scan_14 rfl rfl ?_
    refine zF_getI 18 dX12_scan_15 rfl gX12_348 (by decide) (by decide) hM2.1 hM2.2.1 g2 ?_
    refine zF_callVi 21 (d2 := (d + 1)) (as := [zI (x : Int)]) dX12_scan_18 rfl kX12_345 iX12_byteAt (ci := 12) rfl eX12_byteAt (Nat.le_refl _) hM2.1 hM2.2.1 rfl rfl (Nat.le_of_ble_eq_true rfl) (zt_X12_byteAt (σ := σ2) hM2 hx2 hL2 (by omega) (by omega)) ?_
    refine zF_bipush 23 dX12_scan_21 rfl (by decide) ?_
    refine zF_icmp_ne 39 26 dX12_scan_23 rfl rfl (by first | decide | assumption | exact mBy_rg | (constructor <;> omega)) (by first | decide | assumption | exact mBy_rg | (constructor <;> omega)) (fun c2 => ?_) (fun c2 => ?_)
    · have hn2 : ¬ (x < L ∧ tW (t x) = true) := fun z => by have := (mBy_W hx.b).mpr z; omega
      have eb : x = tbg t L q := ((ez2.trans (zrun_e hn2))).symm
      refine zF_aload_n 40 dX12_scan_39 rfl rfl ?_
      refine zF_aload_n 41 dX12_scan_40 rfl rfl ?_
      refine zF_getI 44 dX12_scan_41 rfl gX12_348 (by decide) (by decide) hM2.1 hM2.2.1 g2 ?_
      refine zF_putI 47 dX12_scan_44 rfl pX12_scan_351 (Or.inl rfl) hM2.1 hM2.2.1 ?_
      refine zF_aload_n 48 dX12_scan_47 rfl rfl ?_
      refine zF_getI 51 dX12_scan_48 rfl gX12_348 (by decide) (by decide) hM2.1 hM2.2.1 (zsi_F (by decide) g2) ?_
      refine zF_aload_n 52 dX12_scan_51 rfl rfl ?_
      refine zF_getI 55 dX12_scan_52 rfl gX12_342 (by decide) (by decide) hM2.1 hM2.2.1 (zsi_F (by decide) hL2) ?_
      refine zF_icmp_lt 66 58 dX12_scan_55 rfl rfl (by first | decide | assumption | exact mBy_rg | (constructor <;> omega)) (by first | decide | assumption | exact mBy_rg | (constructor <;> omega)) (fun c3 => ?_) (fun c3 => ?_)
      · refine zF_aload_n 67 dX12_scan_66 rfl rfl ?_
        refine zF_aload_n 68 dX12_scan_67 rfl rfl ?_
        refine zF_getI 71 dX12_scan_68 rfl gX12_348 (by decide) (by decide) hM2.1 hM2.2.1 (zsi_F (by decide) g2) ?_
        refine zF_callVi 74 (d2 := (d + 1)) (as := [zI (x : Int)]) dX12_scan_71 rfl kX12_357 iX12_isLetter (ci := 12) rfl eX12_isLetter (Nat.le_refl _) hM2.1 hM2.2.1 rfl rfl (Nat.le_of_ble_eq_true rfl) (zt_X12_isLetter (σ := (zsi σ2 hm ((22 : Nat) : Int) (x : Int))) (x := x) hM2 (mTx_si hM2 hx2) (zsi_F (by decide) hL2) (by omega)) ?_
        refine zF_ifb_eq 109 77 dX12_scan_74 rfl rfl (fun c4 => ?_) (fun c4 => ?_)
        · have nA : ¬ (x < L ∧ tA (t x) = true) := by assumption
          refine zF_aload_n 110 dX12_scan_109 rfl rfl ?_
          refine zF_aload_n 111 dX12_scan_110 rfl rfl ?_
          refine zF_getI 114 dX12_scan_111 rfl gX12_348 (by decide) (by decide) hM2.1 hM2.2.1 (zsi_F (by decide) g2) ?_
          refine zF_callVi 117 (d2 := (d + 1)) (as := [zI (x : Int)]) dX12_scan_114 rfl kX12_360 iX12_isDigit (ci := 12) rfl eX12_isDigit (Nat.le_refl _) hM2.1 hM2.2.1 rfl rfl (Nat.le_of_ble_eq_true rfl) (zt_X12_isDigit (σ := (zsi σ2 hm ((22 : Nat) : Int) (x : Int))) (x := x) hM2 (mTx_si hM2 hx2) (zsi_F (by decide) hL2) (by omega)) ?_
          refine zF_ifb_eq 152 120 dX12_scan_117 rfl rfl (fun c5 => ?_) (fun c5 => ?_)
          · have nD : ¬ (x < L ∧ tD (t x) = true) := by assumption
            refine zF_aload_n 153 dX12_scan_152 rfl rfl ?_
            refine zF_dup 154 dX12_scan_153 rfl rfl ?_
            refine zF_getI 157 dX12_scan_154 rfl gX12_348 (by decide) (by decide) hM2.1 hM2.2.1 (zsi_F (by decide) g2) ?_
            refine zF_iconst 158 dX12_scan_157 rfl ?_
            refine zF_iadd 159 dX12_scan_158 rfl ?_
            refine zF_putI 162 dX12_scan_159 rfl pX12_scan_348 (Or.inl rfl) hM2.1 hM2.2.1 ?_
            refine zF_aload_n 163 dX12_scan_162 rfl rfl ?_
            refine zF_iconst 164 dX12_scan_163 rfl ?_
            refine zF_putI 167 dX12_scan_164 rfl pX12_scan_354 (Or.inl rfl) hM2.1 hM2.2.1 ?_
            exact zF_return dX12_scan_167 rfl ((by
    have e1 := tk_sign (t := t) (L := L) (q := q) (b := x) eb nA nD (by omega)
    exact ⟨rfl, (zFr_si ⟨rfl, by decide, by decide⟩ (zFr_si ⟨rfl, by decide, by decide⟩ (zFr_si ⟨rfl, by decide, by decide⟩ f2))), by rw [e1.1]; exact (zsi_F (by decide) (zsi_same _ _ _ _)).trans (by push_cast; rfl), by rw [← eb]; exact (zsi_F (by decide) (zsi_F (by decide) (zsi_same _ _ _ _))), by rw [e1.2.1]; exact (zsi_same _ _ _ _)⟩))
          · refine zF_locs (ls' := [(0, zR hm)]) ⟨rfl, trivial⟩ ?_
            refine zF_while (X := Nat) (fun y9 => L - y9) (fun y9 σ4 => x ≤ y9 ∧ y9 ≤ L ∧ zFr (mPs hm) σ σ4 ∧ zia σ4 hm ((21 : Nat) : Int) = (y9 : Int) ∧ zrun tD t L x = zrun tD t L y9 ∧ zia σ4 hm ((22 : Nat) : Int) = (x : Int)) (fun y9 => [(0, zR hm)]) ?_ x (zsi σ2 hm ((22 : Nat) : Int) (x : Int)) (⟨Nat.le_refl _, by omega, (zFr_si ⟨rfl, by decide, by decide⟩ f2), (zsi_F (by decide) g2), rfl, (zsi_same _ _ _ _)⟩)
            intro z σ4 hI120 ih120
            show zF G mX12_scan (d + 2) 120 [(0, zR hm)] [] σ4 _
            obtain ⟨hz0, hz1, f4, g4, ez4, k4⟩ := hI120
            have hM4 := zMo_f2 f4 hM
            have hx4 := mTx_s hM hx f4
            have hL4 := mPs_o f4 (by omega) hL
            refine zF_aload_n 121 dX12_scan_120 rfl rfl ?_
            refine zF_aload_n 122 dX12_scan_121 rfl rfl ?_
            refine zF_getI 125 dX12_scan_122 rfl gX12_348 (by decide) (by decide) hM4.1 hM4.2.1 g4 ?_
            refine zF_callVi 128 (d2 := (d + 1)) (as := [zI (z : Int)]) dX12_scan_125 rfl kX12_360 iX12_isDigit (ci := 12) rfl eX12_isDigit (Nat.le_refl _) hM4.1 hM4.2.1 rfl rfl (Nat.le_of_ble_eq_true rfl) (zt_X12_isDigit (σ := σ4) (x := z) hM4 hx4 hL4 (by omega)) ?_
            refine zF_ifb_eq 144 131 dX12_scan_128 rfl rfl (fun c6 => ?_) (fun c6 => ?_)
            · have hn4 : ¬ (z < L ∧ tD (t z) = true) := by assumption
              refine zF_aload_n 145 dX12_scan_144 rfl rfl ?_
              refine zF_iconst 146 dX12_scan_145 rfl ?_
              refine zF_putI 149 dX12_scan_146 rfl pX12_scan_354 (Or.inl rfl) hM4.1 hM4.2.1 ?_
              refine zF_goto 167 dX12_scan_149 rfl ?_
              exact zF_return dX12_scan_167 rfl ((by
    have e1 := tk_num (t := t) (L := L) (q := q) (b := x) (x := z) eb nA (Nat.lt_of_le_of_ne hz0 (fun e9 => by subst e9; exact hn4 (by assumption))) (by omega) (ez4.trans (zrun_e hn4)) (fun i a c => tD_i.mp (zrun_in (P := tD) (t := t) (L := L) (p := x) (by omega) i a (by rw [ez4, zrun_e hn4]; exact c)))
    exact ⟨rfl, (zFr_si ⟨rfl, by decide, by decide⟩ f4), by rw [e1.1]; exact (zsi_F (by decide) g4), by rw [← eb]; exact (zsi_F (by decide) k4), by rw [e1.2.1]; exact (zsi_same _ _ _ _)⟩))
            · have hp4 : z < L ∧ tD (t z) = true := by assumption
              refine zF_aload_n 132 dX12_scan_131 rfl rfl ?_
              refine zF_dup 133 dX12_scan_132 rfl rfl ?_
              refine zF_getI 136 dX12_scan_133 rfl gX12_348 (by decide) (by decide) hM4.1 hM4.2.1 g4 ?_
              refine zF_iconst 137 dX12_scan_136 rfl ?_
              refine zF_iadd 138 dX12_scan_137 rfl ?_
              refine zF_putI 141 dX12_scan_138 rfl pX12_scan_348 (Or.inl rfl) hM4.1 hM4.2.1 ?_
              refine zF_goto 120 dX12_scan_141 rfl ?_
              exact zF_locs (ls' := [(0, zR hm)]) ⟨rfl, trivial⟩ (ih120 (z + 1) _ (by omega) (⟨by omega, by omega, (zFr_si ⟨rfl, by decide, by decide⟩ f4), (zsi_same _ _ _ _).trans (by push_cast; rfl), ez4.trans (zrun_s hp4.1 hp4.2), (zsi_F (by decide) k4)⟩))
        · refine zF_locs (ls' := [(0, zR hm)]) ⟨rfl, trivial⟩ ?_
          refine zF_while (X := Nat) (fun y9 => L - y9) (fun y9 σ3 => x ≤ y9 ∧ y9 ≤ L ∧ zFr (mPs hm) σ σ3 ∧ zia σ3 hm ((21 : Nat) : Int) = (y9 : Int) ∧ zrun tA t L x = zrun tA t L y9 ∧ zia σ3 hm ((22 : Nat) : Int) = (x : Int)) (fun y9 => [(0, zR hm)]) ?_ x (zsi σ2 hm ((22 : Nat) : Int) (x : Int)) (⟨Nat.le_refl _, by omega, (zFr_si ⟨rfl, by decide, by decide⟩ f2), (zsi_F (by decide) g2), rfl, (zsi_same _ _ _ _)⟩)
          intro y σ3 hI77 ih77
          show zF G mX12_scan (d + 2) 77 [(0, zR hm)] [] σ3 _
          obtain ⟨hy0, hy1, f3, g3, ez3, k3⟩ := hI77
          have hM3 := zMo_f2 f3 hM
          have hx3 := mTx_s hM hx f3
          have hL3 := mPs_o f3 (by omega) hL
          have al : tA (t x) = true := (by assumption : _ ∧ _).2
          refine zF_aload_n 78 dX12_scan_77 rfl rfl ?_
          refine zF_aload_n 79 dX12_scan_78 rfl rfl ?_
          refine zF_getI 82 dX12_scan_79 rfl gX12_348 (by decide) (by decide) hM3.1 hM3.2.1 g3 ?_
          refine zF_callVi 85 (d2 := (d + 1)) (as := [zI (y : Int)]) dX12_scan_82 rfl kX12_357 iX12_isLetter (ci := 12) rfl eX12_isLetter (Nat.le_refl _) hM3.1 hM3.2.1 rfl rfl (Nat.le_of_ble_eq_true rfl) (zt_X12_isLetter (σ := σ3) (x := y) hM3 hx3 hL3 (by omega)) ?_
          refine zF_ifb_eq 101 88 dX12_scan_85 rfl rfl (fun c7 => ?_) (fun c7 => ?_)
          · have hn3 : ¬ (y < L ∧ tA (t y) = true) := by assumption
            refine zF_aload_n 102 dX12_scan_101 rfl rfl ?_
            refine zF_iconst 103 dX12_scan_102 rfl ?_
            refine zF_putI 106 dX12_scan_103 rfl pX12_scan_354 (Or.inl rfl) hM3.1 hM3.2.1 ?_
            refine zF_goto 167 dX12_scan_106 rfl ?_
            exact zF_return dX12_scan_167 rfl ((by
    have e1 := tk_word (t := t) (L := L) (q := q) (b := x) (x := y) eb (Nat.lt_of_le_of_ne hy0 (fun e9 => by subst e9; exact hn3 (by assumption))) (by omega) (ez3.trans (zrun_e hn3)) al
    exact ⟨rfl, (zFr_si ⟨rfl, by decide, by decide⟩ f3), by rw [e1.1]; exact (zsi_F (by decide) g3), by rw [← eb]; exact (zsi_F (by decide) k3), by rw [e1.2.1]; exact (zsi_same _ _ _ _)⟩))
          · have hp3 : y < L ∧ tA (t y) = true := by assumption
            refine zF_aload_n 89 dX12_scan_88 rfl rfl ?_
            refine zF_dup 90 dX12_scan_89 rfl rfl ?_
            refine zF_getI 93 dX12_scan_90 rfl gX12_348 (by decide) (by decide) hM3.1 hM3.2.1 g3 ?_
            refine zF_iconst 94 dX12_scan_93 rfl ?_
            refine zF_iadd 95 dX12_scan_94 rfl ?_
            refine zF_putI 98 dX12_scan_95 rfl pX12_scan_348 (Or.inl rfl) hM3.1 hM3.2.1 ?_
            refine zF_goto 77 dX12_scan_98 rfl ?_
            exact zF_locs (ls' := [(0, zR hm)]) ⟨rfl, trivial⟩ (ih77 (y + 1) _ (by omega) (⟨by omega, by omega, (zFr_si ⟨rfl, by decide, by decide⟩ f3), (zsi_same _ _ _ _).trans (by push_cast; rfl), ez3.trans (zrun_s hp3.1 hp3.2), (zsi_F (by decide) k3)⟩))
      · refine zF_aload_n 59 dX12_scan_58 rfl rfl ?_
        refine zF_iconst 60 dX12_scan_59 rfl ?_
        refine zF_putI 63 dX12_scan_60 rfl pX12_scan_354 (Or.inl rfl) hM2.1 hM2.2.1 ?_
        refine zF_goto 167 dX12_scan_63 rfl ?_
        exact zF_return dX12_scan_167 rfl ((by
    have e1 := tk_end (t := t) (L := L) (q := q) (b := x) eb (by omega)
    exact ⟨rfl, (zFr_si ⟨rfl, by decide, by decide⟩ (zFr_si ⟨rfl, by decide, by decide⟩ f2)), by rw [e1.1]; exact (zsi_F (by decide) (zsi_F (by decide) g2)), by rw [← eb]; exact (zsi_F (by decide) (zsi_same _ _ _ _)), by rw [e1.2.1]; exact (zsi_same _ _ _ _)⟩))
    · have hp2 : x < L ∧ tW (t x) = true := (mBy_W hx.b).mp (by omega)
      refine zF_aload_n 27 dX12_scan_26 rfl rfl ?_
      refine zF_dup 28 dX12_scan_27 rfl rfl ?_
      refine zF_getI 31 dX12_scan_28 rfl gX12_348 (by decide) (by decide) hM2.1 hM2.2.1 g2 ?_
      refine zF_iconst 32 dX12_scan_31 rfl ?_
      refine zF_iadd 33 dX12_scan_32 rfl ?_
      refine zF_putI 36 dX12_scan_33 rfl pX12_scan_348 (Or.inl rfl) hM2.1 hM2.2.1 ?_
      refine zF_goto 0 dX12_scan_36 rfl ?_
      exact zF_locs (ls' := [(0, zR hm)]) ⟨rfl, trivial⟩ (ih0 (x + 1) _ (by omega) (⟨by omega, by omega, (zFr_si ⟨rfl, by decide, by decide⟩ f2), (zsi_same _ _ _ _).trans (by push_cast; rfl), ez2.trans (zrun_s hp2.1 hp2.2)⟩))
end ZMT

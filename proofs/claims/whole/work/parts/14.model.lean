/-! the reference: its cells, and its small methods -/
section ZM
def zmf : List (Nat × Nat × Nat) := [(0, 1, 312), (1, 1, 312), (2, 1, 312), (3, 1, 3120), (7, 1, 70), (8, 3, 10), (9, 1, 4), (10, 1, 4), (11, 1, 4), (14, 1, 4), (15, 3, 10), (16, 1, 40), (18, 1, 700), (28, 6, 9), (29, 1, 200), (30, 4, 200)]
def zMo (σ : zMem) (hm : Nat) (A : Nat → Nat) : Prop := zkd σ hm = (0, 12) ∧ hm < zn σ ∧ (∀ k t n, (k, t, n) ∈ zmf → zra σ hm ((k : Nat) : Int) = some (A k) ∧ A k < zn σ ∧ zkd σ (A k) = (t, n)) ∧ ∀ j ∈ zmf.map (·.1), ∀ k ∈ zmf.map (·.1), A j = A k → j = k
variable {G : zG} {d : Nat} {σ : zMem} {hm : Nat} {A : Nat → Nat}
theorem zsi_same (σ : zMem) (h : Nat) (j v : Int) : zia (zsi σ h j v) h j = v := by rw [zia_si, if_pos ⟨rfl, rfl⟩]
theorem zsi_F {h : Nat} {j k v x : Int} (hne : k ≠ j) (hF : zia σ h k = x) : zia (zsi σ h j v) h k = x := by rw [zia_si, if_neg (fun q => hne q.2)]; exact hF
theorem zMo_ne (h : zMo σ hm A) {j k : Nat} (hj : j ∈ zmf.map (·.1)) (hk : k ∈ zmf.map (·.1)) (e : j ≠ k) : A j ≠ A k := fun x => e (h.2.2.2 j hj k hk x)
theorem zMo_hm (h : zMo σ hm A) {k t n : Nat} (hk : (k, t, n) ∈ zmf) (ht : t ≠ 0) : A k ≠ hm := fun x => by
  have a := (h.2.2.1 k t n hk).2.2
  rw [x, h.1] at a
  exact ht (congrArg Prod.fst a).symm
theorem zMo_hm1 (h : zMo σ hm A) {k : Nat} (hk : k ∈ zmf.map (·.1)) (hk0 : ∀ q ∈ zmf, q.2.1 ≠ 0) : A k ≠ hm := by
  obtain ⟨q, hq, e⟩ := List.mem_map.mp hk
  subst e
  exact zMo_hm h hq (hk0 q hq)
theorem zsi_at {h h' : Nat} {j v : Int} {f : Int → Int} (hne : h' ≠ h) (hN : zia σ h' = f) : zia (zsi σ h j v) h' = f := by
  rw [← hN]
  funext i
  rw [zia_si, if_neg (fun q => hne q.1)]
theorem zMo_hN {k : Nat} {j v : Int} {f : Int → Int} (hN : zia σ (A k) = f) (h : zMo σ hm A) (hk : k ∈ zmf.map (·.1)) (hk0 : ∀ q ∈ zmf, q.2.1 ≠ 0) : zia (zsi σ hm j v) (A k) = f := zsi_at (zMo_hm1 h hk hk0) hN
theorem zMo_AN {j k : Nat} {i v : Int} {f : Int → Int} (hN : zia σ (A k) = f) (h : zMo σ hm A) (hj : j ∈ zmf.map (·.1)) (hk : k ∈ zmf.map (·.1)) (e : k ≠ j) : zia (zsi σ (A j) i v) (A k) = f := zsi_at (zMo_ne h hk hj e) hN
theorem zMo_AF {j : Nat} {i v i' x : Int} (hF : zia σ hm i' = x) (h : zMo σ hm A) (hj : j ∈ zmf.map (·.1)) (hk0 : ∀ q ∈ zmf, q.2.1 ≠ 0) : zia (zsi σ (A j) i v) hm i' = x := by
  rw [zia_si, if_neg (fun q => zMo_hm1 h hj hk0 q.1.symm)]
  exact hF
theorem zMo_fr {P : Nat → Int → Prop} {σ1 : zMem} (h : zMo σ hm A) (f : zFr P σ σ1) : zMo σ1 hm A := by
  obtain ⟨a, b, c, e⟩ := h
  obtain ⟨f1, f2, f3, -⟩ := f
  refine ⟨by rw [f2]; exact a, by rw [f1]; exact b, fun k t n hk => ?_, e⟩
  rw [f1, f2, f3]
  exact c k t n hk
theorem zMo_f2 {P : Nat → Int → Prop} {σ1 : zMem} (f : zFr P σ σ1) (h : zMo σ hm A) : zMo σ1 hm A := zMo_fr h f
theorem zMo_h1 : ∀ q ∈ zmf, q.2.1 ≠ 0 := by decide
theorem zM_0 (h : zMo σ hm A) : zra σ hm ((0 : Nat) : Int) = some (A 0) ∧ A 0 < zn σ ∧ zkd σ (A 0) = (1, 312) := h.2.2.1 0 1 312 (by decide)
theorem zM_1 (h : zMo σ hm A) : zra σ hm ((1 : Nat) : Int) = some (A 1) ∧ A 1 < zn σ ∧ zkd σ (A 1) = (1, 312) := h.2.2.1 1 1 312 (by decide)
theorem zM_2 (h : zMo σ hm A) : zra σ hm ((2 : Nat) : Int) = some (A 2) ∧ A 2 < zn σ ∧ zkd σ (A 2) = (1, 312) := h.2.2.1 2 1 312 (by decide)
theorem zM_3 (h : zMo σ hm A) : zra σ hm ((3 : Nat) : Int) = some (A 3) ∧ A 3 < zn σ ∧ zkd σ (A 3) = (1, 3120) := h.2.2.1 3 1 3120 (by decide)
theorem zM_7 (h : zMo σ hm A) : zra σ hm ((7 : Nat) : Int) = some (A 7) ∧ A 7 < zn σ ∧ zkd σ (A 7) = (1, 70) := h.2.2.1 7 1 70 (by decide)
theorem zM_8 (h : zMo σ hm A) : zra σ hm ((8 : Nat) : Int) = some (A 8) ∧ A 8 < zn σ ∧ zkd σ (A 8) = (3, 10) := h.2.2.1 8 3 10 (by decide)
theorem zM_9 (h : zMo σ hm A) : zra σ hm ((9 : Nat) : Int) = some (A 9) ∧ A 9 < zn σ ∧ zkd σ (A 9) = (1, 4) := h.2.2.1 9 1 4 (by decide)
theorem zM_10 (h : zMo σ hm A) : zra σ hm ((10 : Nat) : Int) = some (A 10) ∧ A 10 < zn σ ∧ zkd σ (A 10) = (1, 4) := h.2.2.1 10 1 4 (by decide)
theorem zM_11 (h : zMo σ hm A) : zra σ hm ((11 : Nat) : Int) = some (A 11) ∧ A 11 < zn σ ∧ zkd σ (A 11) = (1, 4) := h.2.2.1 11 1 4 (by decide)
theorem zM_14 (h : zMo σ hm A) : zra σ hm ((14 : Nat) : Int) = some (A 14) ∧ A 14 < zn σ ∧ zkd σ (A 14) = (1, 4) := h.2.2.1 14 1 4 (by decide)
theorem zM_15 (h : zMo σ hm A) : zra σ hm ((15 : Nat) : Int) = some (A 15) ∧ A 15 < zn σ ∧ zkd σ (A 15) = (3, 10) := h.2.2.1 15 3 10 (by decide)
theorem zM_16 (h : zMo σ hm A) : zra σ hm ((16 : Nat) : Int) = some (A 16) ∧ A 16 < zn σ ∧ zkd σ (A 16) = (1, 40) := h.2.2.1 16 1 40 (by decide)
theorem zM_18 (h : zMo σ hm A) : zra σ hm ((18 : Nat) : Int) = some (A 18) ∧ A 18 < zn σ ∧ zkd σ (A 18) = (1, 700) := h.2.2.1 18 1 700 (by decide)
theorem zM_28 (h : zMo σ hm A) : zra σ hm ((28 : Nat) : Int) = some (A 28) ∧ A 28 < zn σ ∧ zkd σ (A 28) = (6, 9) := h.2.2.1 28 6 9 (by decide)
theorem zM_29 (h : zMo σ hm A) : zra σ hm ((29 : Nat) : Int) = some (A 29) ∧ A 29 < zn σ ∧ zkd σ (A 29) = (1, 200) := h.2.2.1 29 1 200 (by decide)
theorem zM_30 (h : zMo σ hm A) : zra σ hm ((30 : Nat) : Int) = some (A 30) ∧ A 30 < zn σ ∧ zkd σ (A 30) = (4, 200) := h.2.2.1 30 4 200 (by decide)
def mH (N : Int → Int) (h f : Int) : Int := N (6 + 2 * h + f)
def mS (N : Int → Int) (s f : Int) : Int := N (14 + 8 * s + f)
def mF (N : Int → Int) (f k : Int) : Int := N (94 + 10 * f + k)
def mP (N : Int → Int) (f p : Int) : Int := N (154 + 5 * f + p + 1)
def mR (N : Int → Int) (h f : Int) : Int := N (184 + 6 * h + f)
def mCap (N : Int → Int) (s : Int) : Int := mS N s 1 * mS N s 2
def mPrice (N : Int → Int) (s : Int) : Int := mH N (mS N s 0) 0
def mSh (N : Int → Int) (s day : Int) : Int := if mS N s 5 ≠ -1 ∧ mS N s 6 ≤ day then mS N s 5 else mS N s 4
theorem zt_X12_houseAt {a b : Int} : zP1 G mX12_houseAt d [zI a, zI b] σ (6 + 2 * a + b) := by
  refine zE_of rfl (by simp [zcat]) (Nat.le_of_ble_eq_true rfl) ?_
  show zF G mX12_houseAt d 0 [(0, zI a), (1, zI b)] [] σ _
  refine zF_bipush 2 dX12_houseAt_0 rfl (by decide) ?_
  refine zF_iconst 3 dX12_houseAt_2 rfl ?_
  refine zF_iload_n 4 dX12_houseAt_3 rfl rfl ?_
  refine zF_imul 5 dX12_houseAt_4 rfl ?_
  refine zF_iadd 6 dX12_houseAt_5 rfl ?_
  refine zF_iload_n 7 dX12_houseAt_6 rfl rfl ?_
  refine zF_iadd 8 dX12_houseAt_7 rfl ?_
  exact zF_iretP dX12_houseAt_8 rfl (by first | rfl | exact zbT (by omega) | exact zbF (by omega) | omega)
theorem zt_X12_screenAt {a b : Int} : zP1 G mX12_screenAt d [zI a, zI b] σ (14 + 8 * a + b) := by
  refine zE_of rfl (by simp [zcat]) (Nat.le_of_ble_eq_true rfl) ?_
  show zF G mX12_screenAt d 0 [(0, zI a), (1, zI b)] [] σ _
  refine zF_bipush 2 dX12_screenAt_0 rfl (by decide) ?_
  refine zF_bipush 4 dX12_screenAt_2 rfl (by decide) ?_
  refine zF_iload_n 5 dX12_screenAt_4 rfl rfl ?_
  refine zF_imul 6 dX12_screenAt_5 rfl ?_
  refine zF_iadd 7 dX12_screenAt_6 rfl ?_
  refine zF_iload_n 8 dX12_screenAt_7 rfl rfl ?_
  refine zF_iadd 9 dX12_screenAt_8 rfl ?_
  exact zF_iretP dX12_screenAt_9 rfl (by first | rfl | exact zbT (by omega) | exact zbF (by omega) | omega)
theorem zt_X12_filmAt {a b : Int} : zP1 G mX12_filmAt d [zI a, zI b] σ (94 + 10 * a + b) := by
  refine zE_of rfl (by simp [zcat]) (Nat.le_of_ble_eq_true rfl) ?_
  show zF G mX12_filmAt d 0 [(0, zI a), (1, zI b)] [] σ _
  refine zF_bipush 2 dX12_filmAt_0 rfl (by decide) ?_
  refine zF_bipush 4 dX12_filmAt_2 rfl (by decide) ?_
  refine zF_iload_n 5 dX12_filmAt_4 rfl rfl ?_
  refine zF_imul 6 dX12_filmAt_5 rfl ?_
  refine zF_iadd 7 dX12_filmAt_6 rfl ?_
  refine zF_iload_n 8 dX12_filmAt_7 rfl rfl ?_
  refine zF_iadd 9 dX12_filmAt_8 rfl ?_
  exact zF_iretP dX12_filmAt_9 rfl (by first | rfl | exact zbT (by omega) | exact zbF (by omega) | omega)
theorem zt_X12_runAt {a b : Int} : zP1 G mX12_runAt d [zI a, zI b] σ (184 + 6 * a + b) := by
  refine zE_of rfl (by simp [zcat]) (Nat.le_of_ble_eq_true rfl) ?_
  show zF G mX12_runAt d 0 [(0, zI a), (1, zI b)] [] σ _
  refine zF_sipush 3 dX12_runAt_0 rfl (by decide) ?_
  refine zF_bipush 5 dX12_runAt_3 rfl (by decide) ?_
  refine zF_iload_n 6 dX12_runAt_5 rfl rfl ?_
  refine zF_imul 7 dX12_runAt_6 rfl ?_
  refine zF_iadd 8 dX12_runAt_7 rfl ?_
  refine zF_iload_n 9 dX12_runAt_8 rfl rfl ?_
  refine zF_iadd 10 dX12_runAt_9 rfl ?_
  exact zF_iretP dX12_runAt_10 rfl (by first | rfl | exact zbT (by omega) | exact zbF (by omega) | omega)
theorem zt_X12_printsAt {a b : Int} : zP1 G mX12_printsAt d [zI a, zI b] σ (154 + 5 * a + b + 1) := by
  refine zE_of rfl (by simp [zcat]) (Nat.le_of_ble_eq_true rfl) ?_
  show zF G mX12_printsAt d 0 [(0, zI a), (1, zI b)] [] σ _
  refine zF_sipush 3 dX12_printsAt_0 rfl (by decide) ?_
  refine zF_iconst 4 dX12_printsAt_3 rfl ?_
  refine zF_iload_n 5 dX12_printsAt_4 rfl rfl ?_
  refine zF_imul 6 dX12_printsAt_5 rfl ?_
  refine zF_iadd 7 dX12_printsAt_6 rfl ?_
  refine zF_iload_n 8 dX12_printsAt_7 rfl rfl ?_
  refine zF_iadd 9 dX12_printsAt_8 rfl ?_
  refine zF_iconst 10 dX12_printsAt_9 rfl ?_
  refine zF_iadd 11 dX12_printsAt_10 rfl ?_
  exact zF_iretP dX12_printsAt_11 rfl (by first | rfl | exact zbT (by omega) | exact zbF (by omega) | omega)
theorem zt_X12_inRange {v a b : Int} (hv : zrg v) (ha : zrg a) (hb : zrg b) : zP1 G mX12_inRange d [zI v, zI a, zI b] σ (zb (a ≤ v ∧ v ≤ b)) := by
  refine zE_of rfl (by simp [zcat]) (Nat.le_of_ble_eq_true rfl) ?_
  show zF G mX12_inRange d 0 [(0, zI v), (1, zI a), (2, zI b)] [] σ _
  refine zF_iload_n 1 dX12_inRange_0 rfl rfl ?_
  refine zF_iload_n 2 dX12_inRange_1 rfl rfl ?_
  refine zF_icmp_lt 14 5 dX12_inRange_2 rfl rfl (by first | decide | assumption | (constructor <;> omega)) (by first | decide | assumption | (constructor <;> omega)) (fun c1 => ?_) (fun c1 => ?_)
  · refine zF_iconst 15 dX12_inRange_14 rfl ?_
    exact zF_zretP dX12_inRange_15 rfl (by decide) (by first | rfl | exact zbT (by omega) | exact zbF (by omega) | omega)
  · refine zF_iload_n 6 dX12_inRange_5 rfl rfl ?_
    refine zF_iload_n 7 dX12_inRange_6 rfl rfl ?_
    refine zF_icmp_gt 14 10 dX12_inRange_7 rfl rfl (by first | decide | assumption | (constructor <;> omega)) (by first | decide | assumption | (constructor <;> omega)) (fun c2 => ?_) (fun c2 => ?_)
    · refine zF_iconst 15 dX12_inRange_14 rfl ?_
      exact zF_zretP dX12_inRange_15 rfl (by decide) (by first | rfl | exact zbT (by omega) | exact zbF (by omega) | omega)
    · refine zF_iconst 11 dX12_inRange_10 rfl ?_
      refine zF_goto 15 dX12_inRange_11 rfl ?_
      exact zF_zretP dX12_inRange_15 rfl (by decide) (by first | rfl | exact zbT (by omega) | exact zbF (by omega) | omega)
theorem zt_X12_houses  (hM : zMo σ hm A) : zP1 G mX12_houses d [zR hm] σ (zia σ (A 0) 0) := by
  refine zE_of rfl (by simp [zcat]) (Nat.le_of_ble_eq_true rfl) ?_
  show zF G mX12_houses d 0 [(0, zR hm)] [] σ _
  refine zF_aload_n 1 dX12_houses_0 rfl rfl ?_
  refine zF_getR 4 dX12_houses_1 rfl gX12_9 hM.1 hM.2.1 (zM_0 hM).1 ?_
  refine zF_iconst 5 dX12_houses_4 rfl ?_
  refine zF_iaload 6 dX12_houses_5 rfl (zM_0 hM).2.2 (zM_0 hM).2.1 (by omega) (by omega) rfl ?_
  exact zF_iretP dX12_houses_6 rfl (by first | rfl | exact zbT (by omega) | exact zbF (by omega) | omega)
theorem zn_X12_houses {N : Int → Int}  (hM : zMo σ hm A) (hN : zia σ (A 0) = N) : zP1 G mX12_houses d [zR hm] σ (N 0) := by
  subst hN
  exact zt_X12_houses hM
theorem zt_X12_screens  (hM : zMo σ hm A) : zP1 G mX12_screens d [zR hm] σ (zia σ (A 0) 1) := by
  refine zE_of rfl (by simp [zcat]) (Nat.le_of_ble_eq_true rfl) ?_
  show zF G mX12_screens d 0 [(0, zR hm)] [] σ _
  refine zF_aload_n 1 dX12_screens_0 rfl rfl ?_
  refine zF_getR 4 dX12_screens_1 rfl gX12_9 hM.1 hM.2.1 (zM_0 hM).1 ?_
  refine zF_iconst 5 dX12_screens_4 rfl ?_
  refine zF_iaload 6 dX12_screens_5 rfl (zM_0 hM).2.2 (zM_0 hM).2.1 (by omega) (by omega) rfl ?_
  exact zF_iretP dX12_screens_6 rfl (by first | rfl | exact zbT (by omega) | exact zbF (by omega) | omega)
theorem zn_X12_screens {N : Int → Int}  (hM : zMo σ hm A) (hN : zia σ (A 0) = N) : zP1 G mX12_screens d [zR hm] σ (N 1) := by
  subst hN
  exact zt_X12_screens hM
theorem zt_X12_films  (hM : zMo σ hm A) : zP1 G mX12_films d [zR hm] σ (zia σ (A 0) 2) := by
  refine zE_of rfl (by simp [zcat]) (Nat.le_of_ble_eq_true rfl) ?_
  show zF G mX12_films d 0 [(0, zR hm)] [] σ _
  refine zF_aload_n 1 dX12_films_0 rfl rfl ?_
  refine zF_getR 4 dX12_films_1 rfl gX12_9 hM.1 hM.2.1 (zM_0 hM).1 ?_
  refine zF_iconst 5 dX12_films_4 rfl ?_
  refine zF_iaload 6 dX12_films_5 rfl (zM_0 hM).2.2 (zM_0 hM).2.1 (by omega) (by omega) rfl ?_
  exact zF_iretP dX12_films_6 rfl (by first | rfl | exact zbT (by omega) | exact zbF (by omega) | omega)
theorem zn_X12_films {N : Int → Int}  (hM : zMo σ hm A) (hN : zia σ (A 0) = N) : zP1 G mX12_films d [zR hm] σ (N 2) := by
  subst hN
  exact zt_X12_films hM
theorem zt_X12_ofHouse {a b : Int} (hM : zMo σ hm A) (h0 : 0 ≤ 6 + 2 * a + b) (h1 : 6 + 2 * a + b < 312) : zP1 G mX12_ofHouse (d + 1) [zR hm, zI a, zI b] σ (mH (zia σ (A 0)) a b) := by
  refine zE_of rfl (by simp [zcat]) (Nat.le_of_ble_eq_true rfl) ?_
  show zF G mX12_ofHouse (d + 1) 0 [(0, zR hm), (1, zI a), (2, zI b)] [] σ _
  refine zF_aload_n 1 dX12_ofHouse_0 rfl rfl ?_
  refine zF_getR 4 dX12_ofHouse_1 rfl gX12_9 hM.1 hM.2.1 (zM_0 hM).1 ?_
  refine zF_iload_n 5 dX12_ofHouse_4 rfl rfl ?_
  refine zF_iload_n 6 dX12_ofHouse_5 rfl rfl ?_
  refine zF_callSi 9 (d2 := d) (as := [zI a, zI b]) dX12_ofHouse_6 rfl kX12_92 sX12_houseAt (Nat.le_refl _) rfl rfl (Nat.le_of_ble_eq_true rfl) (zt_X12_houseAt) ?_
  refine zF_iaload 10 dX12_ofHouse_9 rfl (zM_0 hM).2.2 (zM_0 hM).2.1 (by omega) (by omega) rfl ?_
  exact zF_iretP dX12_ofHouse_10 rfl (by first | rfl | exact zbT (by omega) | exact zbF (by omega) | omega)
theorem zn_X12_ofHouse {N : Int → Int} {a b : Int} (hM : zMo σ hm A) (hN : zia σ (A 0) = N) (h0 : 0 ≤ 6 + 2 * a + b) (h1 : 6 + 2 * a + b < 312) : zP1 G mX12_ofHouse (d + 1) [zR hm, zI a, zI b] σ (mH N a b) := by
  subst hN
  exact zt_X12_ofHouse hM h0 h1
theorem zt_X12_of {a b : Int} (hM : zMo σ hm A) (h0 : 0 ≤ 14 + 8 * a + b) (h1 : 14 + 8 * a + b < 312) : zP1 G mX12_of (d + 1) [zR hm, zI a, zI b] σ (mS (zia σ (A 0)) a b) := by
  refine zE_of rfl (by simp [zcat]) (Nat.le_of_ble_eq_true rfl) ?_
  show zF G mX12_of (d + 1) 0 [(0, zR hm), (1, zI a), (2, zI b)] [] σ _
  refine zF_aload_n 1 dX12_of_0 rfl rfl ?_
  refine zF_getR 4 dX12_of_1 rfl gX12_9 hM.1 hM.2.1 (zM_0 hM).1 ?_
  refine zF_iload_n 5 dX12_of_4 rfl rfl ?_
  refine zF_iload_n 6 dX12_of_5 rfl rfl ?_
  refine zF_callSi 9 (d2 := d) (as := [zI a, zI b]) dX12_of_6 rfl kX12_96 sX12_screenAt (Nat.le_refl _) rfl rfl (Nat.le_of_ble_eq_true rfl) (zt_X12_screenAt) ?_
  refine zF_iaload 10 dX12_of_9 rfl (zM_0 hM).2.2 (zM_0 hM).2.1 (by omega) (by omega) rfl ?_
  exact zF_iretP dX12_of_10 rfl (by first | rfl | exact zbT (by omega) | exact zbF (by omega) | omega)
theorem zn_X12_of {N : Int → Int} {a b : Int} (hM : zMo σ hm A) (hN : zia σ (A 0) = N) (h0 : 0 ≤ 14 + 8 * a + b) (h1 : 14 + 8 * a + b < 312) : zP1 G mX12_of (d + 1) [zR hm, zI a, zI b] σ (mS N a b) := by
  subst hN
  exact zt_X12_of hM h0 h1
theorem zt_X12_ofFilm {a b : Int} (hM : zMo σ hm A) (h0 : 0 ≤ 94 + 10 * a + b) (h1 : 94 + 10 * a + b < 312) : zP1 G mX12_ofFilm (d + 1) [zR hm, zI a, zI b] σ (mF (zia σ (A 0)) a b) := by
  refine zE_of rfl (by simp [zcat]) (Nat.le_of_ble_eq_true rfl) ?_
  show zF G mX12_ofFilm (d + 1) 0 [(0, zR hm), (1, zI a), (2, zI b)] [] σ _
  refine zF_aload_n 1 dX12_ofFilm_0 rfl rfl ?_
  refine zF_getR 4 dX12_ofFilm_1 rfl gX12_9 hM.1 hM.2.1 (zM_0 hM).1 ?_
  refine zF_iload_n 5 dX12_ofFilm_4 rfl rfl ?_
  refine zF_iload_n 6 dX12_ofFilm_5 rfl rfl ?_
  refine zF_callSi 9 (d2 := d) (as := [zI a, zI b]) dX12_ofFilm_6 rfl kX12_99 sX12_filmAt (Nat.le_refl _) rfl rfl (Nat.le_of_ble_eq_true rfl) (zt_X12_filmAt) ?_
  refine zF_iaload 10 dX12_ofFilm_9 rfl (zM_0 hM).2.2 (zM_0 hM).2.1 (by omega) (by omega) rfl ?_
  exact zF_iretP dX12_ofFilm_10 rfl (by first | rfl | exact zbT (by omega) | exact zbF (by omega) | omega)
theorem zn_X12_ofFilm {N : Int → Int} {a b : Int} (hM : zMo σ hm A) (hN : zia σ (A 0) = N) (h0 : 0 ≤ 94 + 10 * a + b) (h1 : 94 + 10 * a + b < 312) : zP1 G mX12_ofFilm (d + 1) [zR hm, zI a, zI b] σ (mF N a b) := by
  subst hN
  exact zt_X12_ofFilm hM h0 h1
theorem zt_X12_printsOf {a b : Int} (hM : zMo σ hm A) (h0 : 0 ≤ 154 + 5 * a + b + 1) (h1 : 154 + 5 * a + b + 1 < 312) : zP1 G mX12_printsOf (d + 1) [zR hm, zI a, zI b] σ (mP (zia σ (A 0)) a b) := by
  refine zE_of rfl (by simp [zcat]) (Nat.le_of_ble_eq_true rfl) ?_
  show zF G mX12_printsOf (d + 1) 0 [(0, zR hm), (1, zI a), (2, zI b)] [] σ _
  refine zF_aload_n 1 dX12_printsOf_0 rfl rfl ?_
  refine zF_getR 4 dX12_printsOf_1 rfl gX12_9 hM.1 hM.2.1 (zM_0 hM).1 ?_
  refine zF_iload_n 5 dX12_printsOf_4 rfl rfl ?_
  refine zF_iload_n 6 dX12_printsOf_5 rfl rfl ?_
  refine zF_callSi 9 (d2 := d) (as := [zI a, zI b]) dX12_printsOf_6 rfl kX12_102 sX12_printsAt (Nat.le_refl _) rfl rfl (Nat.le_of_ble_eq_true rfl) (zt_X12_printsAt) ?_
  refine zF_iaload 10 dX12_printsOf_9 rfl (zM_0 hM).2.2 (zM_0 hM).2.1 (by omega) (by omega) rfl ?_
  exact zF_iretP dX12_printsOf_10 rfl (by first | rfl | exact zbT (by omega) | exact zbF (by omega) | omega)
theorem zn_X12_printsOf {N : Int → Int} {a b : Int} (hM : zMo σ hm A) (hN : zia σ (A 0) = N) (h0 : 0 ≤ 154 + 5 * a + b + 1) (h1 : 154 + 5 * a + b + 1 < 312) : zP1 G mX12_printsOf (d + 1) [zR hm, zI a, zI b] σ (mP N a b) := by
  subst hN
  exact zt_X12_printsOf hM h0 h1
theorem zt_X12_isHouse {a : Int} (hM : zMo σ hm A) (ha : zrg a) (h0 : 0 ≤ zia σ (A 0) 0) (h1 : zia σ (A 0) 0 ≤ 10) : zP1 G mX12_isHouse (d + 1) [zR hm, zI a] σ (zb (0 ≤ a ∧ a < zia σ (A 0) 0)) := by
  refine zE_of rfl (by simp [zcat]) (Nat.le_of_ble_eq_true rfl) ?_
  show zF G mX12_isHouse (d + 1) 0 [(0, zR hm), (1, zI a)] [] σ _
  refine zF_iload_n 1 dX12_isHouse_0 rfl rfl ?_
  refine zF_iconst 2 dX12_isHouse_1 rfl ?_
  refine zF_aload_n 3 dX12_isHouse_2 rfl rfl ?_
  refine zF_callVi 6 (d2 := d) (as := []) dX12_isHouse_3 rfl kX12_105 iX12_houses (ci := 12) rfl eX12_houses (Nat.le_refl _) hM.1 hM.2.1 rfl rfl (Nat.le_of_ble_eq_true rfl) (zn_X12_houses hM rfl) ?_
  refine zF_iconst 7 dX12_isHouse_6 rfl ?_
  refine zF_isub 8 dX12_isHouse_7 rfl ?_
  refine zF_callSi 11 (d2 := d) (as := [zI a, zI 0, zI (((zia σ (A 0)) 0) - 1)]) dX12_isHouse_8 rfl kX12_109 sX12_inRange (Nat.le_refl _) rfl rfl (Nat.le_of_ble_eq_true rfl) (zt_X12_inRange (by first | decide | assumption | exact zb_rg _ | (constructor <;> omega)) (by first | decide | assumption | exact zb_rg _ | (constructor <;> omega)) (by first | decide | assumption | exact zb_rg _ | (constructor <;> omega))) ?_
  exact zF_zretP dX12_isHouse_11 rfl (zb01 _) (zb_congr (by omega))
theorem zn_X12_isHouse {N : Int → Int} {a : Int} (hM : zMo σ hm A) (hN : zia σ (A 0) = N) (ha : zrg a) (h0 : 0 ≤ N 0) (h1 : N 0 ≤ 10) : zP1 G mX12_isHouse (d + 1) [zR hm, zI a] σ (zb (0 ≤ a ∧ a < N 0)) := by
  subst hN
  exact zt_X12_isHouse hM ha h0 h1
theorem zt_X12_isScreen {a : Int} (hM : zMo σ hm A) (ha : zrg a) (h0 : 0 ≤ zia σ (A 0) 1) (h1 : zia σ (A 0) 1 ≤ 10) : zP1 G mX12_isScreen (d + 1) [zR hm, zI a] σ (zb (0 ≤ a ∧ a < zia σ (A 0) 1)) := by
  refine zE_of rfl (by simp [zcat]) (Nat.le_of_ble_eq_true rfl) ?_
  show zF G mX12_isScreen (d + 1) 0 [(0, zR hm), (1, zI a)] [] σ _
  refine zF_iload_n 1 dX12_isScreen_0 rfl rfl ?_
  refine zF_iconst 2 dX12_isScreen_1 rfl ?_
  refine zF_aload_n 3 dX12_isScreen_2 rfl rfl ?_
  refine zF_callVi 6 (d2 := d) (as := []) dX12_isScreen_3 rfl kX12_113 iX12_screens (ci := 12) rfl eX12_screens (Nat.le_refl _) hM.1 hM.2.1 rfl rfl (Nat.le_of_ble_eq_true rfl) (zn_X12_screens hM rfl) ?_
  refine zF_iconst 7 dX12_isScreen_6 rfl ?_
  refine zF_isub 8 dX12_isScreen_7 rfl ?_
  refine zF_callSi 11 (d2 := d) (as := [zI a, zI 0, zI (((zia σ (A 0)) 1) - 1)]) dX12_isScreen_8 rfl kX12_109 sX12_inRange (Nat.le_refl _) rfl rfl (Nat.le_of_ble_eq_true rfl) (zt_X12_inRange (by first | decide | assumption | exact zb_rg _ | (constructor <;> omega)) (by first | decide | assumption | exact zb_rg _ | (constructor <;> omega)) (by first | decide | assumption | exact zb_rg _ | (constructor <;> omega))) ?_
  exact zF_zretP dX12_isScreen_11 rfl (zb01 _) (zb_congr (by omega))
theorem zn_X12_isScreen {N : Int → Int} {a : Int} (hM : zMo σ hm A) (hN : zia σ (A 0) = N) (ha : zrg a) (h0 : 0 ≤ N 1) (h1 : N 1 ≤ 10) : zP1 G mX12_isScreen (d + 1) [zR hm, zI a] σ (zb (0 ≤ a ∧ a < N 1)) := by
  subst hN
  exact zt_X12_isScreen hM ha h0 h1
theorem zt_X12_isFilm {a : Int} (hM : zMo σ hm A) (ha : zrg a) (h0 : 0 ≤ zia σ (A 0) 2) (h1 : zia σ (A 0) 2 ≤ 10) : zP1 G mX12_isFilm (d + 1) [zR hm, zI a] σ (zb (0 ≤ a ∧ a < zia σ (A 0) 2)) := by
  refine zE_of rfl (by simp [zcat]) (Nat.le_of_ble_eq_true rfl) ?_
  show zF G mX12_isFilm (d + 1) 0 [(0, zR hm), (1, zI a)] [] σ _
  refine zF_iload_n 1 dX12_isFilm_0 rfl rfl ?_
  refine zF_iconst 2 dX12_isFilm_1 rfl ?_
  refine zF_aload_n 3 dX12_isFilm_2 rfl rfl ?_
  refine zF_callVi 6 (d2 := d) (as := []) dX12_isFilm_3 rfl kX12_116 iX12_films (ci := 12) rfl eX12_films (Nat.le_refl _) hM.1 hM.2.1 rfl rfl (Nat.le_of_ble_eq_true rfl) (zn_X12_films hM rfl) ?_
  refine zF_iconst 7 dX12_isFilm_6 rfl ?_
  refine zF_isub 8 dX12_isFilm_7 rfl ?_
  refine zF_callSi 11 (d2 := d) (as := [zI a, zI 0, zI (((zia σ (A 0)) 2) - 1)]) dX12_isFilm_8 rfl kX12_109 sX12_inRange (Nat.le_refl _) rfl rfl (Nat.le_of_ble_eq_true rfl) (zt_X12_inRange (by first | decide | assumption | exact zb_rg _ | (constructor <;> omega)) (by first | decide | assumption | exact zb_rg _ | (constructor <;> omega)) (by first | decide | assumption | exact zb_rg _ | (constructor <;> omega))) ?_
  exact zF_zretP dX12_isFilm_11 rfl (zb01 _) (zb_congr (by omega))
theorem zn_X12_isFilm {N : Int → Int} {a : Int} (hM : zMo σ hm A) (hN : zia σ (A 0) = N) (ha : zrg a) (h0 : 0 ≤ N 2) (h1 : N 2 ≤ 10) : zP1 G mX12_isFilm (d + 1) [zR hm, zI a] σ (zb (0 ≤ a ∧ a < N 2)) := by
  subst hN
  exact zt_X12_isFilm hM ha h0 h1
theorem zt_X12_isPlace {a : Int} (hM : zMo σ hm A) (ha : zrg a) (h0 : 0 ≤ zia σ (A 0) 0) (h1 : zia σ (A 0) 0 ≤ 10) : zP1 G mX12_isPlace (d + 1) [zR hm, zI a] σ (zb (-1 ≤ a ∧ a < zia σ (A 0) 0)) := by
  refine zE_of rfl (by simp [zcat]) (Nat.le_of_ble_eq_true rfl) ?_
  show zF G mX12_isPlace (d + 1) 0 [(0, zR hm), (1, zI a)] [] σ _
  refine zF_iload_n 1 dX12_isPlace_0 rfl rfl ?_
  refine zF_iconst 2 dX12_isPlace_1 rfl ?_
  refine zF_aload_n 3 dX12_isPlace_2 rfl rfl ?_
  refine zF_callVi 6 (d2 := d) (as := []) dX12_isPlace_3 rfl kX12_105 iX12_houses (ci := 12) rfl eX12_houses (Nat.le_refl _) hM.1 hM.2.1 rfl rfl (Nat.le_of_ble_eq_true rfl) (zn_X12_houses hM rfl) ?_
  refine zF_iconst 7 dX12_isPlace_6 rfl ?_
  refine zF_isub 8 dX12_isPlace_7 rfl ?_
  refine zF_callSi 11 (d2 := d) (as := [zI a, zI (-1), zI (((zia σ (A 0)) 0) - 1)]) dX12_isPlace_8 rfl kX12_109 sX12_inRange (Nat.le_refl _) rfl rfl (Nat.le_of_ble_eq_true rfl) (zt_X12_inRange (by first | decide | assumption | exact zb_rg _ | (constructor <;> omega)) (by first | decide | assumption | exact zb_rg _ | (constructor <;> omega)) (by first | decide | assumption | exact zb_rg _ | (constructor <;> omega))) ?_
  exact zF_zretP dX12_isPlace_11 rfl (zb01 _) (zb_congr (by omega))
theorem zn_X12_isPlace {N : Int → Int} {a : Int} (hM : zMo σ hm A) (hN : zia σ (A 0) = N) (ha : zrg a) (h0 : 0 ≤ N 0) (h1 : N 0 ≤ 10) : zP1 G mX12_isPlace (d + 1) [zR hm, zI a] σ (zb (-1 ≤ a ∧ a < N 0)) := by
  subst hN
  exact zt_X12_isPlace hM ha h0 h1
theorem zt_X12_isDay {a : Int} (ha : zrg a) : zP1 G mX12_isDay (d + 1) [zI a] σ (zb (0 ≤ a ∧ a < 7)) := by
  refine zE_of rfl (by simp [zcat]) (Nat.le_of_ble_eq_true rfl) ?_
  show zF G mX12_isDay (d + 1) 0 [(0, zI a)] [] σ _
  refine zF_iload_n 1 dX12_isDay_0 rfl rfl ?_
  refine zF_iconst 2 dX12_isDay_1 rfl ?_
  refine zF_bipush 4 dX12_isDay_2 rfl (by decide) ?_
  refine zF_callSi 7 (d2 := d) (as := [zI a, zI 0, zI 6]) dX12_isDay_4 rfl kX12_109 sX12_inRange (Nat.le_refl _) rfl rfl (Nat.le_of_ble_eq_true rfl) (zt_X12_inRange (by first | decide | assumption | exact zb_rg _ | (constructor <;> omega)) (by first | decide | assumption | exact zb_rg _ | (constructor <;> omega)) (by first | decide | assumption | exact zb_rg _ | (constructor <;> omega))) ?_
  exact zF_zretP dX12_isDay_7 rfl (zb01 _) (zb_congr (by omega))
theorem zt_X12_capacityOf {a : Int} (hM : zMo σ hm A) (h0 : 0 ≤ a) (h1 : a < 10) : zP1 G mX12_capacityOf (d + 2) [zR hm, zI a] σ (mCap (zia σ (A 0)) a) := by
  refine zE_of rfl (by simp [zcat]) (Nat.le_of_ble_eq_true rfl) ?_
  show zF G mX12_capacityOf (d + 2) 0 [(0, zR hm), (1, zI a)] [] σ _
  refine zF_aload_n 1 dX12_capacityOf_0 rfl rfl ?_
  refine zF_iload_n 2 dX12_capacityOf_1 rfl rfl ?_
  refine zF_iconst 3 dX12_capacityOf_2 rfl ?_
  refine zF_callVi 6 (d2 := (d + 1)) (as := [zI a, zI 1]) dX12_capacityOf_3 rfl kX12_119 iX12_of (ci := 12) rfl eX12_of (Nat.le_refl _) hM.1 hM.2.1 rfl rfl (Nat.le_of_ble_eq_true rfl) (zn_X12_of hM rfl (by omega) (by omega)) ?_
  refine zF_aload_n 7 dX12_capacityOf_6 rfl rfl ?_
  refine zF_iload_n 8 dX12_capacityOf_7 rfl rfl ?_
  refine zF_iconst 9 dX12_capacityOf_8 rfl ?_
  refine zF_callVi 12 (d2 := (d + 1)) (as := [zI a, zI 2]) dX12_capacityOf_9 rfl kX12_119 iX12_of (ci := 12) rfl eX12_of (Nat.le_refl _) hM.1 hM.2.1 rfl rfl (Nat.le_of_ble_eq_true rfl) (zn_X12_of hM rfl (by omega) (by omega)) ?_
  refine zF_imul 13 dX12_capacityOf_12 rfl ?_
  exact zF_iretP dX12_capacityOf_13 rfl (by first | rfl | exact zbT (by omega) | exact zbF (by omega) | omega)
theorem zn_X12_capacityOf {N : Int → Int} {a : Int} (hM : zMo σ hm A) (hN : zia σ (A 0) = N) (h0 : 0 ≤ a) (h1 : a < 10) : zP1 G mX12_capacityOf (d + 2) [zR hm, zI a] σ (mCap N a) := by
  subst hN
  exact zt_X12_capacityOf hM h0 h1
theorem zt_X12_priceAt {a : Int} (hM : zMo σ hm A) (h0 : 0 ≤ a) (h1 : a < 10) (h2 : 0 ≤ mS (zia σ (A 0)) a 0) (h3 : mS (zia σ (A 0)) a 0 < 4) : zP1 G mX12_priceAt (d + 2) [zR hm, zI a] σ (mPrice (zia σ (A 0)) a) := by
  refine zE_of rfl (by simp [zcat]) (Nat.le_of_ble_eq_true rfl) ?_
  show zF G mX12_priceAt (d + 2) 0 [(0, zR hm), (1, zI a)] [] σ _
  refine zF_aload_n 1 dX12_priceAt_0 rfl rfl ?_
  refine zF_aload_n 2 dX12_priceAt_1 rfl rfl ?_
  refine zF_iload_n 3 dX12_priceAt_2 rfl rfl ?_
  refine zF_iconst 4 dX12_priceAt_3 rfl ?_
  refine zF_callVi 7 (d2 := (d + 1)) (as := [zI a, zI 0]) dX12_priceAt_4 rfl kX12_119 iX12_of (ci := 12) rfl eX12_of (Nat.le_refl _) hM.1 hM.2.1 rfl rfl (Nat.le_of_ble_eq_true rfl) (zn_X12_of hM rfl (by omega) (by omega)) ?_
  refine zF_iconst 8 dX12_priceAt_7 rfl ?_
  refine zF_callVi 11 (d2 := (d + 1)) (as := [zI (mS (zia σ (A 0)) a 0), zI 0]) dX12_priceAt_8 rfl kX12_122 iX12_ofHouse (ci := 12) rfl eX12_ofHouse (Nat.le_refl _) hM.1 hM.2.1 rfl rfl (Nat.le_of_ble_eq_true rfl) (zn_X12_ofHouse hM rfl (by omega) (by omega)) ?_
  exact zF_iretP dX12_priceAt_11 rfl (by first | rfl | exact zbT (by omega) | exact zbF (by omega) | omega)
theorem zn_X12_priceAt {N : Int → Int} {a : Int} (hM : zMo σ hm A) (hN : zia σ (A 0) = N) (h0 : 0 ≤ a) (h1 : a < 10) (h2 : 0 ≤ mS N a 0) (h3 : mS N a 0 < 4) : zP1 G mX12_priceAt (d + 2) [zR hm, zI a] σ (mPrice N a) := by
  subst hN
  exact zt_X12_priceAt hM h0 h1 h2 h3
theorem zt_X12_isSplit {a : Int} (hM : zMo σ hm A) (hb : ∀ j, zrg (zia σ (A 0) j)) (h0 : 0 ≤ a) (h1 : a < 10) : zP1 G mX12_isSplit (d + 2) [zR hm, zI a] σ (zb (mS (zia σ (A 0)) a 5 ≠ -1)) := by
  refine zE_of rfl (by simp [zcat]) (Nat.le_of_ble_eq_true rfl) ?_
  show zF G mX12_isSplit (d + 2) 0 [(0, zR hm), (1, zI a)] [] σ _
  refine zF_aload_n 1 dX12_isSplit_0 rfl rfl ?_
  refine zF_iload_n 2 dX12_isSplit_1 rfl rfl ?_
  refine zF_iconst 3 dX12_isSplit_2 rfl ?_
  refine zF_callVi 6 (d2 := (d + 1)) (as := [zI a, zI 5]) dX12_isSplit_3 rfl kX12_119 iX12_of (ci := 12) rfl eX12_of (Nat.le_refl _) hM.1 hM.2.1 rfl rfl (Nat.le_of_ble_eq_true rfl) (zn_X12_of hM rfl (by omega) (by omega)) ?_
  refine zF_iconst 7 dX12_isSplit_6 rfl ?_
  refine zF_icmp_eq 14 10 dX12_isSplit_7 rfl rfl (by first | decide | exact hb _ | assumption | exact zb_rg _ | (constructor <;> omega)) (by first | decide | exact hb _ | assumption | exact zb_rg _ | (constructor <;> omega)) (fun c1 => ?_) (fun c1 => ?_)
  · refine zF_iconst 15 dX12_isSplit_14 rfl ?_
    exact zF_zretP dX12_isSplit_15 rfl (by decide) (by first | exact zbT (by assumption) | exact zbF (by assumption) | exact zbF (by omega) | exact zbT (by omega))
  · refine zF_iconst 11 dX12_isSplit_10 rfl ?_
    refine zF_goto 15 dX12_isSplit_11 rfl ?_
    exact zF_zretP dX12_isSplit_15 rfl (by decide) (by first | exact zbT (by assumption) | exact zbF (by assumption) | exact zbF (by omega) | exact zbT (by omega))
theorem zn_X12_isSplit {N : Int → Int} {a : Int} (hM : zMo σ hm A) (hN : zia σ (A 0) = N) (hb : ∀ j, zrg (N j)) (h0 : 0 ≤ a) (h1 : a < 10) : zP1 G mX12_isSplit (d + 2) [zR hm, zI a] σ (zb (mS N a 5 ≠ -1)) := by
  subst hN
  exact zt_X12_isSplit hM hb h0 h1
theorem zt_X12_shownOn {a b : Int} (hM : zMo σ hm A) (hb : ∀ j, zrg (zia σ (A 0) j)) (h0 : 0 ≤ a) (h1 : a < 10) (h2 : zrg b) : zP1 G mX12_shownOn (d + 3) [zR hm, zI a, zI b] σ (mSh (zia σ (A 0)) a b) := by
  refine zE_of rfl (by simp [zcat]) (Nat.le_of_ble_eq_true rfl) ?_
  show zF G mX12_shownOn (d + 3) 0 [(0, zR hm), (1, zI a), (2, zI b)] [] σ _
  refine zF_aload_n 1 dX12_shownOn_0 rfl rfl ?_
  refine zF_iload_n 2 dX12_shownOn_1 rfl rfl ?_
  refine zF_callVi 5 (d2 := (d + 2)) (as := [zI a]) dX12_shownOn_2 rfl kX12_125 iX12_isSplit (ci := 12) rfl eX12_isSplit (Nat.le_refl _) hM.1 hM.2.1 rfl rfl (Nat.le_of_ble_eq_true rfl) (zn_X12_isSplit hM rfl hb (by omega) (by omega)) ?_
  refine zF_ifb_eq 28 8 dX12_shownOn_5 rfl rfl (fun c1 => ?_) (fun c1 => ?_)
  · refine zF_aload_n 29 dX12_shownOn_28 rfl rfl ?_
    refine zF_iload_n 30 dX12_shownOn_29 rfl rfl ?_
    refine zF_iconst 31 dX12_shownOn_30 rfl ?_
    refine zF_callVi 34 (d2 := (d + 2)) (as := [zI a, zI 4]) dX12_shownOn_31 rfl kX12_119 iX12_of (ci := 12) rfl eX12_of (Nat.le_refl _) hM.1 hM.2.1 rfl rfl (Nat.le_of_ble_eq_true rfl) (zn_X12_of hM rfl (by omega) (by omega)) ?_
    exact zF_iretP dX12_shownOn_34 rfl (by first | exact (if_pos (by omega)).symm | exact (if_neg (by omega)).symm)
  · refine zF_iload_n 9 dX12_shownOn_8 rfl rfl ?_
    refine zF_aload_n 10 dX12_shownOn_9 rfl rfl ?_
    refine zF_iload_n 11 dX12_shownOn_10 rfl rfl ?_
    refine zF_bipush 13 dX12_shownOn_11 rfl (by decide) ?_
    refine zF_callVi 16 (d2 := (d + 2)) (as := [zI a, zI 6]) dX12_shownOn_13 rfl kX12_119 iX12_of (ci := 12) rfl eX12_of (Nat.le_refl _) hM.1 hM.2.1 rfl rfl (Nat.le_of_ble_eq_true rfl) (zn_X12_of hM rfl (by omega) (by omega)) ?_
    refine zF_icmp_lt 28 19 dX12_shownOn_16 rfl rfl (by first | decide | exact hb _ | assumption | exact zb_rg _ | (constructor <;> omega)) (by first | decide | exact hb _ | assumption | exact zb_rg _ | (constructor <;> omega)) (fun c2 => ?_) (fun c2 => ?_)
    · refine zF_aload_n 29 dX12_shownOn_28 rfl rfl ?_
      refine zF_iload_n 30 dX12_shownOn_29 rfl rfl ?_
      refine zF_iconst 31 dX12_shownOn_30 rfl ?_
      refine zF_callVi 34 (d2 := (d + 2)) (as := [zI a, zI 4]) dX12_shownOn_31 rfl kX12_119 iX12_of (ci := 12) rfl eX12_of (Nat.le_refl _) hM.1 hM.2.1 rfl rfl (Nat.le_of_ble_eq_true rfl) (zn_X12_of hM rfl (by omega) (by omega)) ?_
      exact zF_iretP dX12_shownOn_34 rfl (by first | exact (if_pos (by omega)).symm | exact (if_neg (by omega)).symm)
    · refine zF_aload_n 20 dX12_shownOn_19 rfl rfl ?_
      refine zF_iload_n 21 dX12_shownOn_20 rfl rfl ?_
      refine zF_iconst 22 dX12_shownOn_21 rfl ?_
      refine zF_callVi 25 (d2 := (d + 2)) (as := [zI a, zI 5]) dX12_shownOn_22 rfl kX12_119 iX12_of (ci := 12) rfl eX12_of (Nat.le_refl _) hM.1 hM.2.1 rfl rfl (Nat.le_of_ble_eq_true rfl) (zn_X12_of hM rfl (by omega) (by omega)) ?_
      refine zF_goto 34 dX12_shownOn_25 rfl ?_
      exact zF_iretP dX12_shownOn_34 rfl (by first | exact (if_pos (by omega)).symm | exact (if_neg (by omega)).symm)
theorem zn_X12_shownOn {N : Int → Int} {a b : Int} (hM : zMo σ hm A) (hN : zia σ (A 0) = N) (hb : ∀ j, zrg (N j)) (h0 : 0 ≤ a) (h1 : a < 10) (h2 : zrg b) : zP1 G mX12_shownOn (d + 3) [zR hm, zI a, zI b] σ (mSh N a b) := by
  subst hN
  exact zt_X12_shownOn hM hb h0 h1 h2
theorem mSh_rg {N : Int → Int} (hb : ∀ j, zrg (N j)) (s day : Int) : zrg (mSh N s day) := by
  unfold mSh
  split
  · exact hb _
  · exact hb _
def mShows (N : Int → Int) (s h f day : Int) : Prop := mS N s 0 = h ∧ mSh N s day = f
theorem mShows_dec (N : Int → Int) (s h f day : Int) : mShows N s h f day ↔ (mS N s 0 = h ∧ mSh N s day = f) := Iff.rfl
theorem zt_X12_shows {a h f b : Int} (hM : zMo σ hm A) (hb : ∀ j, zrg (zia σ (A 0) j)) (h0 : 0 ≤ a) (h1 : a < 10) (h2 : zrg h) (h3 : zrg f) (h4 : zrg b) : zP1 G mX12_shows (d + 4) [zR hm, zI a, zI h, zI f, zI b] σ (zb (mS (zia σ (A 0)) a 0 = h ∧ mSh (zia σ (A 0)) a b = f)) := by
  refine zE_of rfl (by simp [zcat]) (Nat.le_of_ble_eq_true rfl) ?_
  show zF G mX12_shows (d + 4) 0 [(0, zR hm), (1, zI a), (2, zI h), (3, zI f), (4, zI b)] [] σ _
  refine zF_aload_n 1 dX12_shows_0 rfl rfl ?_
  refine zF_iload_n 2 dX12_shows_1 rfl rfl ?_
  refine zF_iconst 3 dX12_shows_2 rfl ?_
  refine zF_callVi 6 (d2 := (d + 3)) (as := [zI a, zI 0]) dX12_shows_3 rfl kX12_119 iX12_of (ci := 12) rfl eX12_of (Nat.le_refl _) hM.1 hM.2.1 rfl rfl (Nat.le_of_ble_eq_true rfl) (zn_X12_of hM rfl (by omega) (by omega)) ?_
  refine zF_iload_n 7 dX12_shows_6 rfl rfl ?_
  refine zF_icmp_ne 25 10 dX12_shows_7 rfl rfl (by first | decide | exact hb _ | exact mSh_rg hb _ _ | assumption | exact zb_rg _ | (constructor <;> omega)) (by first | decide | exact hb _ | exact mSh_rg hb _ _ | assumption | exact zb_rg _ | (constructor <;> omega)) (fun c1 => ?_) (fun c1 => ?_)
  · refine zF_iconst 26 dX12_shows_25 rfl ?_
    exact zF_zretP dX12_shows_26 rfl (by decide) (by first | rfl | exact zbT (by omega) | exact zbF (by omega) | omega)
  · refine zF_aload_n 11 dX12_shows_10 rfl rfl ?_
    refine zF_iload_n 12 dX12_shows_11 rfl rfl ?_
    refine zF_iload 14 dX12_shows_12 rfl rfl ?_
    refine zF_callVi 17 (d2 := (d + 3)) (as := [zI a, zI b]) dX12_shows_14 rfl kX12_129 iX12_shownOn (ci := 12) rfl eX12_shownOn (Nat.le_refl _) hM.1 hM.2.1 rfl rfl (Nat.le_of_ble_eq_true rfl) (zn_X12_shownOn hM rfl hb (by omega) (by omega) (by first | decide | exact hb _ | exact mSh_rg hb _ _ | assumption | exact zb_rg _ | (constructor <;> omega))) ?_
    refine zF_iload_n 18 dX12_shows_17 rfl rfl ?_
    refine zF_icmp_ne 25 21 dX12_shows_18 rfl rfl (by first | decide | exact hb _ | exact mSh_rg hb _ _ | assumption | exact zb_rg _ | (constructor <;> omega)) (by first | decide | exact hb _ | exact mSh_rg hb _ _ | assumption | exact zb_rg _ | (constructor <;> omega)) (fun c2 => ?_) (fun c2 => ?_)
    · refine zF_iconst 26 dX12_shows_25 rfl ?_
      exact zF_zretP dX12_shows_26 rfl (by decide) (by first | rfl | exact zbT (by omega) | exact zbF (by omega) | omega)
    · refine zF_iconst 22 dX12_shows_21 rfl ?_
      refine zF_goto 26 dX12_shows_22 rfl ?_
      exact zF_zretP dX12_shows_26 rfl (by decide) (by first | rfl | exact zbT (by omega) | exact zbF (by omega) | omega)
theorem zn_X12_shows {N : Int → Int} {a h f b : Int} (hM : zMo σ hm A) (hN : zia σ (A 0) = N) (hb : ∀ j, zrg (N j)) (h0 : 0 ≤ a) (h1 : a < 10) (h2 : zrg h) (h3 : zrg f) (h4 : zrg b) : zP1 G mX12_shows (d + 4) [zR hm, zI a, zI h, zI f, zI b] σ (zb (mS N a 0 = h ∧ mSh N a b = f)) := by
  subst hN
  exact zt_X12_shows hM hb h0 h1 h2 h3 h4
end ZM

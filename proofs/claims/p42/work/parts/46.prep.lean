/-! the class: programs: the search -/
section ZC11
variable {G : zG} {d : Nat} {σ : zMem} {B : Nat → Nat} {N : Int → Int}
theorem pow4 : ∀ k : Fin 4, ∀ m : Fin 16, ∀ j : Fin 4, (m : Nat) < 2 ^ (k : Nat) → (2 ^ (k : Nat) + (m : Nat)).testBit j = (if j = k then true else (m : Nat).testBit j) ∧ (m : Nat).testBit k = false := by decide +kernel
theorem capM_pow {h : Int} {k m : Nat} (hk : k < 4) (hm : m < 2 ^ k) : capM N h (2 ^ k + m) = capM N h m + mCap N (rk N h k) := by
  have m16 : m < 16 := Nat.lt_of_lt_of_le hm (Nat.pow_le_pow_right (by decide) (show k ≤ 4 by omega))
  have b : ∀ j : Nat, j < 4 → (2 ^ k + m).testBit j = (if j = k then true else m.testBit j) ∧ m.testBit k = false := fun j hj => by
    have := pow4 ⟨k, hk⟩ ⟨m, m16⟩ ⟨j, hj⟩ hm
    refine ⟨this.1.trans ?_, this.2⟩
    by_cases e : j = k
    · subst e; rw [if_pos rfl, if_pos rfl]
    · rw [if_neg e, if_neg (fun z => e (congrArg Fin.val z))]
  have u := zsum_upd (f := fun j => if m.testBit j.toNat = true then mCap N (rk N h j) else 0) (g := fun j => if (2 ^ k + m).testBit j.toNat = true then mCap N (rk N h j) else 0) (j := k) (n := 4) hk (fun i hi hne => by
    show (if (2 ^ k + m).testBit i = true then mCap N (rk N h i) else 0) = if m.testBit i = true then mCap N (rk N h i) else 0
    rw [(b i hi).1, if_neg hne])
  unfold capM
  rw [u]
  have e1 : (if (2 ^ k + m).testBit ((k : Int)).toNat = true then mCap N (rk N h k) else 0) = mCap N (rk N h k) := by
    rw [show ((k : Int)).toNat = k from rfl, (b k hk).1, if_pos rfl, if_pos rfl]
  have e2 : (if m.testBit ((k : Int)).toNat = true then mCap N (rk N h k) else 0) = 0 := by
    rw [show ((k : Int)).toNat = k from rfl, (b k hk).2, if_neg (by decide)]
  rw [e1, e2]
  omega
theorem capM_0 (N : Int → Int) (h : Int) : capM N h 0 = 0 := by
  unfold capM
  refine (zsum_congr fun k _ => ?_).trans (zsum_0 4)
  rw [Nat.zero_testBit, if_neg (by decide)]
theorem capM_b (hV : mV N) (hQ : mC4 N) {h : Int} {m : Nat} (hm : m < 16) (hf : msub m (fullM (nn N h))) : 0 ≤ capM N h m ∧ capM N h m ≤ 12000 := by
  have h4 := (nn_eq hQ h).2
  have key : ∀ k : Nat, k < 4 → 0 ≤ (if m.testBit ((k : Int)).toNat = true then mCap N (rk N h k) else 0) ∧ (if m.testBit ((k : Int)).toNat = true then mCap N (rk N h k) else 0) ≤ 3000 := fun k hk => by
    rw [show ((k : Int)).toNat = k from rfl]
    by_cases c : m.testBit k = true
    · rw [if_pos c]
      have f := msub_b hm (msk_lt _ _) hk hf c
      rw [show (msk (fun _ => true) (nn N h)).testBit k = (decide (k < nn N h) && true) from msk_bit _ _ _ hk, Bool.and_true, decide_eq_true_iff] at f
      have hn := hV.n
      have r := rk_b hV (h := h) (k := (k : Int)) (by omega) (by omega)
      exact mCap_b hV r.1 (by omega)
    · rw [if_neg c]; omega
  have a := zsum_ge (f := fun k => if m.testBit k.toNat = true then mCap N (rk N h k) else 0) (n := 4) (a := 0) fun i hi => (key i hi).1
  have b := zsum_le (f := fun k => if m.testBit k.toNat = true then mCap N (rk N h k) else 0) (n := 4) (a := 3000) fun i hi => (key i hi).2
  unfold capM
  omega
theorem full_lt : ∀ n : Fin 5, ∀ m : Fin 16, msub m (fullM n) ↔ (m : Nat) < 2 ^ (n : Nat) := by
  have h : ∀ n : Fin 5, ∀ m : Fin 16, (m : Nat) - ((m : Nat) &&& fullM n) = 0 ↔ (m : Nat) < 2 ^ (n : Nat) := by decide +kernel
  exact h
theorem tkM_b (hV : mV N) (hQ : mC4 N) {h f : Int} (h0 : 0 ≤ h) (h1 : h < 4) (f0 : 0 ≤ f) (f1 : f < 6) {m : Nat} (hm : m < 16) (hf : msub m (fullM (nn N h))) : 0 ≤ tkM N h f m ∧ tkM N h f m ≤ 6929307 ∧ 0 ≤ min (mDem N f * 7) (capM N h m * 7) ∧ min (mDem N f * 7) (capM N h m * 7) ≤ 69993 := by
  have a := capM_b hV hQ hm hf
  have b := mDem_b hV f0 f1 (mAge N f).toNat
  have e : mDem N f = mDemN N f (mAge N f).toNat := rfl
  have c := hV.h h h0 h1
  have q := zmul_b (a := min (mDem N f * 7) (capM N h m * 7)) (b := mH N h 0) (X := 69993) (Y := 99) (by omega) (by omega) (by omega) (by omega)
  unfold tkM
  omega
theorem gM_b (hV : mV N) (hQ : mC4 N) {h f : Int} (h0 : 0 ≤ h) (h1 : h < 4) (f0 : 0 ≤ f) (f1 : f < N 2) {lim : Int → Int} {m : Nat} (hm : m < 16) (hf : msub m (fullM (nn N h))) : -1 ≤ gM N h lim f m ∧ gM N h lim f m ≤ 6929307 := by
  have hn := hV.n
  have a := tkM_b hV hQ h0 h1 f0 (by omega) hm hf
  have b := mShare_le hV h0 h1 f0 f1 a.1 (by omega)
  unfold gM
  split <;> omega
/-- what the programs hold of a house -/
def cPv (N : Int → Int) (h : Int) (lim ch : Int → Int) (σ : zMem) (B : Nat → Nat) : Prop := zia σ (B 400) ((3 : Nat) : Int) = h ∧ zia σ (B 400) ((4 : Nat) : Int) = (nn N h : Int) ∧ (∀ k : Nat, k < nn N h → zia σ (B 405) k = rk N h k) ∧ (∀ k : Nat, k < nn N h → zia σ (B 406) k = ch k) ∧ (∀ f, 0 ≤ f → f < N 2 → zia σ (B 407) f = lim f) ∧ ∀ m : Nat, m < 2 ^ nn N h → zia σ (B 408) m = capM N h m
theorem cPv_fr {P : Nat → Int → Prop} {h : Int} {lim ch : Int → Int} {σ2 : zMem} (v : cPv N h lim ch σ B) (f : zFr P σ σ2) (hp : ∀ j, ¬ P (B 400) j ∧ ¬ P (B 405) j ∧ ¬ P (B 406) j ∧ ¬ P (B 407) j ∧ ¬ P (B 408) j) : cPv N h lim ch σ2 B := by
  obtain ⟨a, b, c, e, g, i⟩ := v
  refine ⟨(f.2.2.2.2.2 _ _ (hp _).1).trans a, (f.2.2.2.2.2 _ _ (hp _).1).trans b, fun k hk => (f.2.2.2.2.2 _ _ (hp _).2.1).trans (c k hk), fun k hk => (f.2.2.2.2.2 _ _ (hp _).2.2.1).trans (e k hk), fun x x0 x1 => (f.2.2.2.2.2 _ _ (hp _).2.2.2.1).trans (g x x0 x1), fun m hm => (f.2.2.2.2.2 _ _ (hp _).2.2.2.2).trans (i m hm)⟩
theorem zt_X5_addRoom {h c : Int} {k z : Nat} (hk : k < 4) (hz : z = 2 ^ k) (hP : cPr σ B) (hr : ∀ m : Nat, m < z → zia σ (B 408) m = capM N h m) (hc : c = mCap N (rk N h k)) : zE G mX5_addRoom d [zR (B 400), zI ((z : Nat) : Int), zI c] σ (fun ro σ1 => ro = .inl none ∧ zFr (fun y j => y = B 408 ∧ 1 ≤ j) σ σ1 ∧ ∀ m : Nat, m < 2 ^ (k + 1) → zia σ1 (B 408) m = capM N h m) := by
  refine zE_of rfl (by simp [zcat]) (Nat.le_of_ble_eq_true rfl) ?_
  show zF G mX5_addRoom d 0 [(0, zR (B 400)), (1, zI ((z : Nat) : Int)), (2, zI c)] [] σ _
  have k2 : z ≤ 8 ∧ 1 ≤ z := by rw [hz]; exact ⟨Nat.le_trans (Nat.pow_le_pow_right (by decide) (show k ≤ 3 by omega)) (by decide), Nat.one_le_two_pow⟩
  refine zF_iconst 1 dX5_addRoom_0 rfl ?_
  refine zF_istore_n 2 (ls' := [(3, zI 0), (0, zR (B 400)), (1, zI ((z : Nat) : Int)), (2, zI c)]) dX5_addRoom_1 rfl (by decide) rfl ?_
  refine zF_locs (ls' := [(3, zI ((0 : Nat) : Int)), (0, zR (B 400)), (1, zI ((z : Nat) : Int)), (2, zI c)]) ⟨zlI rfl (by first | rfl | omega | (push_cast; omega) | exact congrArg (_ + ·) (zbT (by assumption)) | exact congrArg (_ + ·) (zbF (by assumption)) | exact congrArg (_ + ·) (zbT (by omega)) | exact congrArg (_ + ·) (zbF (by omega)) | exact congrArg (_ + ·) (if_pos (by omega)).symm | exact congrArg (_ + ·) (if_neg (by omega)).symm | exact (if_pos (by omega)).symm | exact (if_neg (by omega)).symm | exact zsub_s (if_pos (by omega)).symm | exact zsub_s0 (if_neg (by omega)).symm | exact zadd0 (if_neg (by omega)).symm | exact zadd0 (zbF (by omega)) | exact (Int.sub_zero _).symm), rfl, rfl, rfl, trivial⟩ ?_
  refine zF_while (X := Nat) (fun x => z - x) (fun x σ2 => x ≤ z ∧ zFr (fun y j => y = B 408 ∧ 1 ≤ j) σ σ2 ∧ (∀ m : Nat, m < z → zia σ2 (B 408) m = capM N h m) ∧ ∀ m : Nat, m < x → zia σ2 (B 408) ((z + m : Nat) : Int) = capM N h (z + m)) (fun x => [(3, zI ((x : Nat) : Int)), (0, zR (B 400)), (1, zI ((z : Nat) : Int)), (2, zI c)]) ?_ 0 σ (⟨Nat.zero_le _, zFr.rf, hr, fun m hm => absurd hm (Nat.not_lt_zero _)⟩)
  intro x σ2 hI2 ih2
  show zF G mX5_addRoom d 2 [(3, zI ((x : Nat) : Int)), (0, zR (B 400)), (1, zI ((z : Nat) : Int)), (2, zI c)] [] σ2 _
  obtain ⟨hx, fr2, r2, s2⟩ := hI2
  have hP2 := cPr_fr hP fr2
  have k2 : z ≤ 8 ∧ 1 ≤ z := by rw [hz]; exact ⟨Nat.le_trans (Nat.pow_le_pow_right (by decide) (show k ≤ 3 by omega)) (by decide), Nat.one_le_two_pow⟩
  refine zF_iload_n 3 dX5_addRoom_2 rfl rfl ?_
  refine zF_iload_n 4 dX5_addRoom_3 rfl rfl ?_
  refine zF_icmp_ge 29 7 dX5_addRoom_4 rfl rfl (by first | decide | (constructor <;> omega)) (by first | decide | (constructor <;> omega)) (fun c1 => ?_) (fun c1 => ?_)
  · exact zF_return dX5_addRoom_29 rfl (⟨rfl, fr2, fun m hm => by
      by_cases e : m < z
      · exact r2 m e
      · have p : 2 ^ (k + 1) = z + z := by rw [Nat.pow_succ, ← hz]; omega
        have := s2 (m - z) (by omega)
        rw [show z + (m - z) = m by omega] at this
        exact this⟩)
  · refine zF_aload_n 8 dX5_addRoom_7 rfl rfl ?_
    refine zF_getR 11 dX5_addRoom_8 rfl gX5_21 hP2.1 hP2.2.1 (cB_408 hP2).1 ?_
    refine zF_iload_n 12 dX5_addRoom_11 rfl rfl ?_
    refine zF_iload_n 13 dX5_addRoom_12 rfl rfl ?_
    refine zF_iadd 14 dX5_addRoom_13 rfl ?_
    refine zF_aload_n 15 dX5_addRoom_14 rfl rfl ?_
    refine zF_getR 18 dX5_addRoom_15 rfl gX5_21 hP2.1 hP2.2.1 (cB_408 hP2).1 ?_
    refine zF_iload_n 19 dX5_addRoom_18 rfl rfl ?_
    refine zF_iaload 20 dX5_addRoom_19 rfl (cB_408 hP2).2.2 (cB_408 hP2).2.1 (by omega) (by omega) rfl ?_
    refine zF_iload_n 21 dX5_addRoom_20 rfl rfl ?_
    refine zF_iadd 22 dX5_addRoom_21 rfl ?_
    refine zF_iastore 23 dX5_addRoom_22 rfl (cB_408 hP2).2.2 (cB_408 hP2).2.1 (by omega) (by omega) ?_
    refine zF_iinc 26 (ls' := [(3, zI (((x : Nat) : Int) + 1)), (0, zR (B 400)), (1, zI ((z : Nat) : Int)), (2, zI c)]) dX5_addRoom_23 rfl rfl rfl (by decide) rfl ?_
    refine zF_goto 2 dX5_addRoom_26 rfl ?_
    exact zF_locs (ls' := [(3, zI (((x + 1) : Nat) : Int)), (0, zR (B 400)), (1, zI ((z : Nat) : Int)), (2, zI c)]) ⟨zlI rfl (by first | rfl | omega | (push_cast; omega) | exact congrArg (_ + ·) (zbT (by assumption)) | exact congrArg (_ + ·) (zbF (by assumption)) | exact congrArg (_ + ·) (zbT (by omega)) | exact congrArg (_ + ·) (zbF (by omega)) | exact congrArg (_ + ·) (if_pos (by omega)).symm | exact congrArg (_ + ·) (if_neg (by omega)).symm | exact (if_pos (by omega)).symm | exact (if_neg (by omega)).symm | exact zsub_s (if_pos (by omega)).symm | exact zsub_s0 (if_neg (by omega)).symm | exact zadd0 (if_neg (by omega)).symm | exact zadd0 (zbF (by omega)) | exact (Int.sub_zero _).symm), rfl, rfl, rfl, trivial⟩ (ih2 (x + 1) _ (by omega) (⟨by omega, zFr_si ⟨rfl, by omega⟩ fr2, fun m hm => by rw [zia_si, if_neg (fun q => by have := q.2; omega)]; exact r2 m hm, fun m hm => by
        rw [zia_si]
        by_cases e : m = x
        · rw [if_pos ⟨rfl, by omega⟩, e, hz, capM_pow hk (by omega), r2 x (by omega), hc]
        · rw [if_neg (fun q => e (by have := q.2; omega)), s2 m (by omega)]⟩))
theorem ch0_held {h : Int} {sx : Nat} (rkx : rk N h (mCn N h sx) = sx) (c : mS N sx 7 = 1) : mS N sx 4 = ch0 N h (mCn N h sx) := by
  unfold ch0; rw [rkx, if_pos c]
theorem ch0_open {h : Int} {sx : Nat} (rkx : rk N h (mCn N h sx) = sx) (c : ¬ mS N sx 7 = 1) : -2 = ch0 N h (mCn N h sx) := by
  unfold ch0; rw [rkx, if_neg c]
theorem prep_step {h : Int} {sx : Nat} {σ2 σ3 : zMem} {a b c : Int} (hj : ∀ i j, B i = B j → i = j) (frp : zFr (fun y j => (∃ i, y = B i ∧ (i = 400 ∨ i = 405 ∨ i = 406 ∨ i = 407 ∨ i = 408)) ∧ ¬ (y = B 408 ∧ j = 0)) σ σ2) (e3 : zia σ2 (B 400) ((3 : Nat) : Int) = h) (ec : mCn N h (sx + 1) = mCn N h sx + 1) (rkx : rk N h (mCn N h sx) = sx) (c0 : 0 ≤ mCn N h sx) (hx : sx + 1 ≤ nS N) (ro2 : ∀ k : Nat, (k : Int) < mCn N h sx → zia σ2 (B 405) k = rk N h k ∧ zia σ2 (B 406) k = ch0 N h k)
    (fr : zFr (fun y j => y = B 408 ∧ 1 ≤ j) (zsi (zsi σ2 (B 405) (mCn N h sx) a) (B 406) (mCn N h sx) b) σ3) (p : ∀ m : Nat, m < 2 ^ ((mCn N h sx).toNat + 1) → zia σ3 (B 408) m = capM N h m) (ea : a = (sx : Int)) (eb : b = ch0 N h (mCn N h sx)) (ecc : c = mCn N h sx + 1) :
    sx + 1 ≤ nS N ∧ zFr (fun y j => (∃ i, y = B i ∧ (i = 400 ∨ i = 405 ∨ i = 406 ∨ i = 407 ∨ i = 408)) ∧ ¬ (y = B 408 ∧ j = 0)) σ (zsi σ3 (B 400) ((4 : Nat) : Int) c) ∧ zia (zsi σ3 (B 400) ((4 : Nat) : Int) c) (B 400) ((3 : Nat) : Int) = h ∧ zia (zsi σ3 (B 400) ((4 : Nat) : Int) c) (B 400) ((4 : Nat) : Int) = mCn N h (sx + 1 : Nat) ∧ (∀ k : Nat, (k : Int) < mCn N h (sx + 1 : Nat) → zia (zsi σ3 (B 400) ((4 : Nat) : Int) c) (B 405) k = rk N h k ∧ zia (zsi σ3 (B 400) ((4 : Nat) : Int) c) (B 406) k = ch0 N h k) ∧ ∀ m : Nat, m < 2 ^ (mCn N h (sx + 1 : Nat)).toNat → zia (zsi σ3 (B 400) ((4 : Nat) : Int) c) (B 408) m = capM N h m := by
  have ne : ∀ {i j : Nat}, i ≠ j → B i ≠ B j := fun h e => h (hj _ _ e)
  have n8 : ∀ {i : Nat} {j : Int}, i ≠ 408 → ¬ (B i = B 408 ∧ 1 ≤ j) := fun h q => ne h q.1
  refine ⟨hx, zFr_si ⟨⟨400, rfl, by decide⟩, fun z => ne (by decide) z.1⟩ (zFr.tr (zFr_si ⟨⟨406, rfl, by decide⟩, fun z => ne (by decide) z.1⟩ (zFr_si ⟨⟨405, rfl, by decide⟩, fun z => ne (by decide) z.1⟩ frp)) (fr.wk fun _ _ q => ⟨⟨408, q.1, by decide⟩, fun z => by have := q.2; have := z.2; omega⟩)), ?_, ?_, fun k hk => ⟨?_, ?_⟩, fun m hm => ?_⟩
  · exact zsi_F (by decide) ((fr.2.2.2.2.2 _ _ (n8 (by decide))).trans (zsi_N (ne (by decide)) (zsi_N (ne (by decide)) e3)))
  · rw [zsi_same, ecc, ec]
  · rw [ec] at hk
    refine zsi_N (ne (by decide)) ((fr.2.2.2.2.2 _ _ (n8 (by decide))).trans (zsi_N (ne (by decide)) ?_))
    rw [zia_si]
    by_cases e : (k : Int) = mCn N h sx
    · rw [if_pos ⟨rfl, e⟩, e, rkx, ea]
    · rw [if_neg (fun q => e q.2)]; exact (ro2 k (by omega)).1
  · rw [ec] at hk
    refine zsi_N (ne (by decide)) ((fr.2.2.2.2.2 _ _ (n8 (by decide))).trans ?_)
    rw [zia_si]
    by_cases e : (k : Int) = mCn N h sx
    · rw [if_pos ⟨rfl, e⟩, e, eb]
    · rw [if_neg (fun q => e q.2)]; exact zsi_N (ne (by decide)) (ro2 k (by omega)).2
  · refine zsi_N (ne (by decide)) (p m ?_)
    rw [ec, show (mCn N h sx + 1).toNat = (mCn N h sx).toNat + 1 by omega] at hm
    exact hm
theorem prep_end {h : Int} {sx : Nat} {σ2 σ3 : zMem} (hj : ∀ i j, B i = B j → i = j) (hQ : mC4 N) (ex : sx = nS N) (frf : zFr (fun y _ => y = B 407) σ2 σ3) (e3 : zia σ2 (B 400) ((3 : Nat) : Int) = h) (e4 : zia σ2 (B 400) ((4 : Nat) : Int) = mCn N h sx) (ro2 : ∀ k : Nat, (k : Int) < mCn N h sx → zia σ2 (B 405) k = rk N h k ∧ zia σ2 (B 406) k = ch0 N h k) (rm2 : ∀ m : Nat, m < 2 ^ (mCn N h sx).toNat → zia σ2 (B 408) m = capM N h m) (lf : ∀ f, 0 ≤ f → f < N 2 → zia σ3 (B 407) f = lmP N h f) : cPv N h (lmP N h) (ch0 N h) σ3 B := by
  subst ex
  have hnn := nn_eq hQ h
  have ne : ∀ {i j : Nat}, i ≠ j → B i ≠ B j := fun h e => h (hj _ _ e)
  exact ⟨(frf.2.2.2.2.2 _ _ (ne (by decide))).trans e3, ((frf.2.2.2.2.2 _ _ (ne (by decide))).trans e4).trans hnn.1, fun k hk => (frf.2.2.2.2.2 _ _ (ne (by decide))).trans (ro2 k (by omega)).1, fun k hk => (frf.2.2.2.2.2 _ _ (ne (by decide))).trans (ro2 k (by omega)).2, lf, fun m hm => (frf.2.2.2.2.2 _ _ (ne (by decide))).trans (rm2 m hm)⟩
theorem zt_X5_prepare {h : Int} (hB : cM σ B) (hP : cPr σ B) (hR : cR N σ B) (hV : mV N) (hQ : mC4 N) (h0 : 0 ≤ h) (h1 : h < N 0) (hr0 : zia σ (B 408) 0 = 0) : zE G mX5_prepare (d + 2) [zR (B 400), zI h] σ (fun ro σ1 => ro = .inl none ∧ zFr (fun y j => (∃ i, y = B i ∧ (i = 400 ∨ i = 405 ∨ i = 406 ∨ i = 407 ∨ i = 408)) ∧ ¬ (y = B 408 ∧ j = 0)) σ σ1 ∧ cPv N h (lmP N h) (ch0 N h) σ1 B) := by
  refine zE_of rfl (by simp [zcat]) (Nat.le_of_ble_eq_true rfl) ?_
  show zF G mX5_prepare (d + 2) 0 [(0, zR (B 400)), (1, zI h)] [] σ _
  have hb := hV.b
  have hn := hV.n
  have hs := nS_eq hV
  have hf0 := nF_eq hV
  refine zF_aload_n 1 dX5_prepare_0 rfl rfl ?_
  refine zF_iload_n 2 dX5_prepare_1 rfl rfl ?_
  refine zF_putI 5 dX5_prepare_2 rfl pX5_prepare_86 (Or.inl rfl) hP.1 hP.2.1 ?_
  refine zF_aload_n 6 dX5_prepare_5 rfl rfl ?_
  refine zF_iconst 7 dX5_prepare_6 rfl ?_
  refine zF_putI 10 dX5_prepare_7 rfl pX5_prepare_63 (Or.inl rfl) hP.1 hP.2.1 ?_
  refine zF_iconst 11 dX5_prepare_10 rfl ?_
  refine zF_istore_n 12 (ls' := [(2, zI 0), (0, zR (B 400)), (1, zI h)]) dX5_prepare_11 rfl (by decide) rfl ?_
  refine zF_locs (ls' := [(2, zI ((0 : Nat) : Int)), (0, zR (B 400)), (1, zI h)]) ⟨zlI rfl (by first | rfl | omega | (push_cast; omega) | exact congrArg (_ + ·) (zbT (by assumption)) | exact congrArg (_ + ·) (zbF (by assumption)) | exact congrArg (_ + ·) (zbT (by omega)) | exact congrArg (_ + ·) (zbF (by omega)) | exact congrArg (_ + ·) (if_pos (by omega)).symm | exact congrArg (_ + ·) (if_neg (by omega)).symm | exact (if_pos (by omega)).symm | exact (if_neg (by omega)).symm | exact zsub_s (if_pos (by omega)).symm | exact zsub_s0 (if_neg (by omega)).symm | exact zadd0 (if_neg (by omega)).symm | exact zadd0 (zbF (by omega)) | exact (Int.sub_zero _).symm), rfl, rfl, trivial⟩ ?_
  refine zF_while (X := Nat) (fun x => nS N - x) (fun x σ2 => x ≤ nS N ∧ zFr (fun y j => (∃ i, y = B i ∧ (i = 400 ∨ i = 405 ∨ i = 406 ∨ i = 407 ∨ i = 408)) ∧ ¬ (y = B 408 ∧ j = 0)) σ σ2 ∧ zia σ2 (B 400) ((3 : Nat) : Int) = h ∧ zia σ2 (B 400) ((4 : Nat) : Int) = mCn N h x ∧ (∀ k : Nat, (k : Int) < mCn N h x → zia σ2 (B 405) k = rk N h k ∧ zia σ2 (B 406) k = ch0 N h k) ∧ ∀ m : Nat, m < 2 ^ (mCn N h x).toNat → zia σ2 (B 408) m = capM N h m) (fun x => [(2, zI ((x : Nat) : Int)), (0, zR (B 400)), (1, zI h)]) ?_ 0 (zsi (zsi σ (B 400) ((3 : Nat) : Int) h) (B 400) ((4 : Nat) : Int) 0) (⟨Nat.zero_le _, zFr_si ⟨⟨400, rfl, by decide⟩, fun z => absurd (hB.inj _ _ z.1) (by decide)⟩ (zFr_si ⟨⟨400, rfl, by decide⟩, fun z => absurd (hB.inj _ _ z.1) (by decide)⟩ zFr.rf), zsi_F (by decide) (zsi_same _ _ _ _), zsi_same _ _ _ _, fun k hk => by have : (k : Int) < 0 := hk; omega, fun m hm => by
      have e : m = 0 := Nat.lt_one_iff.mp hm
      subst e
      rw [capM_0]
      exact zsi_N (fun e => absurd (hB.inj _ _ e) (by decide)) (zsi_N (fun e => absurd (hB.inj _ _ e) (by decide)) hr0)⟩)
  intro sx σ2 hI12 ih12
  show zF G mX5_prepare (d + 2) 12 [(2, zI ((sx : Nat) : Int)), (0, zR (B 400)), (1, zI h)] [] σ2 _
  obtain ⟨hx, frp, e3, e4, ro2, rm2⟩ := hI12
  have hB2 := cM_fr hB frp
  have hP2 := cPr_fr hP frp
  have hR2 := cR_fr hB frp (fun i j hi q => by obtain ⟨⟨k, e, c⟩, _⟩ := q; have := hB.inj _ _ e; omega) hR
  have cb := mCn_b N h sx
  have cm := mCn_mono N h hx
  refine zF_iload_n 13 dX5_prepare_12 rfl rfl ?_
  refine zF_aload_n 14 dX5_prepare_13 rfl rfl ?_
  refine zF_getR 17 dX5_prepare_14 rfl gX5_39 hP2.1 hP2.2.1 hP2.2.2.1 ?_
  refine zF_getI 20 dX5_prepare_17 rfl gX5_89 (by decide) (by decide) hB2.ch.1 hB2.ch.2.1 hR2.c.1.2.1 ?_
  refine zF_icmp_ge 123 23 dX5_prepare_20 rfl rfl (by first | decide | assumption | exact hb _ | (constructor <;> omega)) (by first | decide | assumption | exact hb _ | (constructor <;> omega)) (fun c1 => ?_) (fun c1 => ?_)
  · refine zF_iconst 124 dX5_prepare_123 rfl ?_
    refine zF_istore_n 125 (ls' := [(2, zI 0), (0, zR (B 400)), (1, zI h)]) dX5_prepare_124 rfl (by decide) rfl ?_
    refine zF_locs (ls' := [(2, zI ((0 : Nat) : Int)), (0, zR (B 400)), (1, zI h)]) ⟨zlI rfl (by first | rfl | omega | (push_cast; omega) | exact congrArg (_ + ·) (zbT (by assumption)) | exact congrArg (_ + ·) (zbF (by assumption)) | exact congrArg (_ + ·) (zbT (by omega)) | exact congrArg (_ + ·) (zbF (by omega)) | exact congrArg (_ + ·) (if_pos (by omega)).symm | exact congrArg (_ + ·) (if_neg (by omega)).symm | exact (if_pos (by omega)).symm | exact (if_neg (by omega)).symm | exact zsub_s (if_pos (by omega)).symm | exact zsub_s0 (if_neg (by omega)).symm | exact zadd0 (if_neg (by omega)).symm | exact zadd0 (zbF (by omega)) | exact (Int.sub_zero _).symm), rfl, rfl, trivial⟩ ?_
    refine zF_while (X := Nat) (fun x => nF N - x) (fun x σ3 => x ≤ nF N ∧ zFr (fun y _ => y = B 407) σ2 σ3 ∧ ∀ f : Int, 0 ≤ f → f < (x : Int) → zia σ3 (B 407) f = lmP N h f) (fun x => [(2, zI ((x : Nat) : Int)), (0, zR (B 400)), (1, zI h)]) ?_ 0 σ2 (⟨Nat.zero_le _, zFr.rf, fun f a b => by omega⟩)
    intro f σ3 hI125 ih125
    show zF G mX5_prepare (d + 2) 125 [(2, zI ((f : Nat) : Int)), (0, zR (B 400)), (1, zI h)] [] σ3 _
    obtain ⟨hf, frf, lf⟩ := hI125
    have hB3 := cM_fr hB2 frf
    have hP3 := cPr_fr hP2 frf
    have hR3 := cR_fr hB2 frf (fun i j hi q => by have := hB.inj _ _ q; omega) hR2
    refine zF_iload_n 126 dX5_prepare_125 rfl rfl ?_
    refine zF_aload_n 127 dX5_prepare_126 rfl rfl ?_
    refine zF_getR 130 dX5_prepare_127 rfl gX5_39 hP3.1 hP3.2.1 hP3.2.2.1 ?_
    refine zF_getI 133 dX5_prepare_130 rfl gX5_71 (by decide) (by decide) hB3.ch.1 hB3.ch.2.1 hR3.c.1.2.2 ?_
    refine zF_icmp_ge 157 136 dX5_prepare_133 rfl rfl (by first | decide | assumption | exact hb _ | (constructor <;> omega)) (by first | decide | assumption | exact hb _ | (constructor <;> omega)) (fun c2 => ?_) (fun c2 => ?_)
    · exact zF_return dX5_prepare_157 rfl (⟨rfl, frp.tr (frf.wk fun _ _ q => ⟨⟨407, q, by decide⟩, fun z => absurd (hB.inj _ _ (q.symm.trans z.1)) (by decide)⟩), prep_end hB.inj hQ (by omega) frf e3 e4 ro2 rm2 (fun f a b => lf f a (by omega))⟩)
    · refine zF_aload_n 137 dX5_prepare_136 rfl rfl ?_
      refine zF_getR 140 dX5_prepare_137 rfl gX5_18 hP3.1 hP3.2.1 (cB_407 hP3).1 ?_
      refine zF_iload_n 141 dX5_prepare_140 rfl rfl ?_
      refine zF_aload_n 142 dX5_prepare_141 rfl rfl ?_
      refine zF_getR 145 dX5_prepare_142 rfl gX5_43 hP3.1 hP3.2.1 hP3.2.2.2.1 ?_
      refine zF_iload_n 146 dX5_prepare_145 rfl rfl ?_
      refine zF_iload_n 147 dX5_prepare_146 rfl rfl ?_
      refine zF_callVi 150 (d2 := (d + 1)) (as := [zI ((f : Nat) : Int), zI h]) dX5_prepare_147 rfl kX5_106 iX8_printsAt (ci := 8) rfl eX8_printsAt (Nat.le_refl _) hB3.st.1 hB3.st.2.1 rfl rfl (Nat.le_of_ble_eq_true rfl) (zt_X8_printsAt hB3 hR3 hV (by omega) (by omega) (by omega) (by omega)) ?_
      refine zF_iastore 151 dX5_prepare_150 rfl (cB_407 hP3).2.2 (cB_407 hP3).2.1 (by omega) (by omega) ?_
      refine zF_iinc 154 (ls' := [(2, zI (((f : Nat) : Int) + 1)), (0, zR (B 400)), (1, zI h)]) dX5_prepare_151 rfl rfl rfl (by decide) rfl ?_
      refine zF_goto 125 dX5_prepare_154 rfl ?_
      exact zF_locs (ls' := [(2, zI (((f + 1) : Nat) : Int)), (0, zR (B 400)), (1, zI h)]) ⟨zlI rfl (by first | rfl | omega | (push_cast; omega) | exact congrArg (_ + ·) (zbT (by assumption)) | exact congrArg (_ + ·) (zbF (by assumption)) | exact congrArg (_ + ·) (zbT (by omega)) | exact congrArg (_ + ·) (zbF (by omega)) | exact congrArg (_ + ·) (if_pos (by omega)).symm | exact congrArg (_ + ·) (if_neg (by omega)).symm | exact (if_pos (by omega)).symm | exact (if_neg (by omega)).symm | exact zsub_s (if_pos (by omega)).symm | exact zsub_s0 (if_neg (by omega)).symm | exact zadd0 (if_neg (by omega)).symm | exact zadd0 (zbF (by omega)) | exact (Int.sub_zero _).symm), rfl, rfl, trivial⟩ (ih125 (f + 1) _ (by omega) (⟨by omega, zFr_si rfl frf, fun g a b => by
          rw [zia_si]
          by_cases e : g = (f : Int)
          · rw [if_pos ⟨rfl, e⟩, e]; rfl
          · rw [if_neg (fun q => e q.2), lf g a (by omega)]⟩))
  · refine zF_aload_n 24 dX5_prepare_23 rfl rfl ?_
    refine zF_getR 27 dX5_prepare_24 rfl gX5_39 hP2.1 hP2.2.1 hP2.2.2.1 ?_
    refine zF_getR 30 dX5_prepare_27 rfl gX5_91 hB2.ch.1 hB2.ch.2.1 (cB_104 hB2).1 ?_
    refine zF_iload_n 31 dX5_prepare_30 rfl rfl ?_
    refine zF_iaload 32 dX5_prepare_31 rfl (cB_104 hB2).2.2 (cB_104 hB2).2.1 (by omega) (by omega) (hR2.c.2.2.1 _ (by omega) (by omega)).1 ?_
    refine zF_iload_n 33 dX5_prepare_32 rfl rfl ?_
    refine zF_icmp_ne 117 36 dX5_prepare_33 rfl rfl (by first | decide | assumption | exact hb _ | (constructor <;> omega)) (by first | decide | assumption | exact hb _ | (constructor <;> omega)) (fun c3 => ?_) (fun c3 => ?_)
    · refine zF_iinc 120 (ls' := [(2, zI (((sx : Nat) : Int) + 1)), (0, zR (B 400)), (1, zI h)]) dX5_prepare_117 rfl rfl rfl (by decide) rfl ?_
      refine zF_goto 12 dX5_prepare_120 rfl ?_
      exact zF_locs (ls' := [(2, zI (((sx + 1) : Nat) : Int)), (0, zR (B 400)), (1, zI h)]) ⟨zlI rfl (by first | rfl | omega | (push_cast; omega) | exact congrArg (_ + ·) (zbT (by assumption)) | exact congrArg (_ + ·) (zbF (by assumption)) | exact congrArg (_ + ·) (zbT (by omega)) | exact congrArg (_ + ·) (zbF (by omega)) | exact congrArg (_ + ·) (if_pos (by omega)).symm | exact congrArg (_ + ·) (if_neg (by omega)).symm | exact (if_pos (by omega)).symm | exact (if_neg (by omega)).symm | exact zsub_s (if_pos (by omega)).symm | exact zsub_s0 (if_neg (by omega)).symm | exact zadd0 (if_neg (by omega)).symm | exact zadd0 (zbF (by omega)) | exact (Int.sub_zero _).symm), rfl, rfl, trivial⟩ (ih12 (sx + 1) _ (by omega) (⟨by omega, frp, e3, by rw [e4, mCn_s, ← zbF (by omega), Int.add_zero], fun k hk => ro2 k (by rw [mCn_s, ← zbF (by omega)] at hk; omega), fun m hm => rm2 m (by rw [mCn_s, ← zbF (by omega), Int.add_zero] at hm; exact hm)⟩))
    · have qlt := mCn_lt N h (a := sx) (b := nS N) (by omega) (by omega)
      have rkx := rk_inj N h (s := sx) (by omega) (by omega)
      have ecx : mCn N h sx = (((mCn N h sx).toNat : Nat) : Int) := by omega
      have qs := hV.s (sx : Int) (by omega) (by omega)
      have qc4 := hQ h
      refine zF_aload_n 37 dX5_prepare_36 rfl rfl ?_
      refine zF_getI 40 dX5_prepare_37 rfl gX5_63 (by decide) (by decide) hP2.1 hP2.2.1 e4 ?_
      refine zF_iconst 41 dX5_prepare_40 rfl ?_
      refine zF_icmp_ge 117 44 dX5_prepare_41 rfl rfl (by first | decide | assumption | exact hb _ | (constructor <;> omega)) (by first | decide | assumption | exact hb _ | (constructor <;> omega)) (fun c4 => ?_) (fun c4 => ?_)
      · refine zF_iinc 120 (ls' := [(2, zI (((sx : Nat) : Int) + 1)), (0, zR (B 400)), (1, zI h)]) dX5_prepare_117 rfl rfl rfl (by decide) rfl ?_
        refine zF_goto 12 dX5_prepare_120 rfl ?_
        exact zF_locs (ls' := [(2, zI (((sx + 1) : Nat) : Int)), (0, zR (B 400)), (1, zI h)]) ⟨zlI rfl (by first | rfl | omega | (push_cast; omega) | exact congrArg (_ + ·) (zbT (by assumption)) | exact congrArg (_ + ·) (zbF (by assumption)) | exact congrArg (_ + ·) (zbT (by omega)) | exact congrArg (_ + ·) (zbF (by omega)) | exact congrArg (_ + ·) (if_pos (by omega)).symm | exact congrArg (_ + ·) (if_neg (by omega)).symm | exact (if_pos (by omega)).symm | exact (if_neg (by omega)).symm | exact zsub_s (if_pos (by omega)).symm | exact zsub_s0 (if_neg (by omega)).symm | exact zadd0 (if_neg (by omega)).symm | exact zadd0 (zbF (by omega)) | exact (Int.sub_zero _).symm), rfl, rfl, trivial⟩ (ih12 (sx + 1) _ (by omega) (⟨by omega, frp, e3, by rw [e4, mCn_s, ← zbF (by omega), Int.add_zero], fun k hk => ro2 k (by rw [mCn_s, ← zbF (by omega)] at hk; omega), fun m hm => rm2 m (by rw [mCn_s, ← zbF (by omega), Int.add_zero] at hm; exact hm)⟩))
      · refine zF_aload_n 45 dX5_prepare_44 rfl rfl ?_
        refine zF_getR 48 dX5_prepare_45 rfl gX5_9 hP2.1 hP2.2.1 (cB_405 hP2).1 ?_
        refine zF_aload_n 49 dX5_prepare_48 rfl rfl ?_
        refine zF_getI 52 dX5_prepare_49 rfl gX5_63 (by decide) (by decide) hP2.1 hP2.2.1 e4 ?_
        refine zF_iload_n 53 dX5_prepare_52 rfl rfl ?_
        refine zF_iastore 54 dX5_prepare_53 rfl (cB_405 hP2).2.2 (cB_405 hP2).2.1 (by omega) (by omega) ?_
        refine zF_aload_n 55 dX5_prepare_54 rfl rfl ?_
        refine zF_getR 58 dX5_prepare_55 rfl gX5_15 hP2.1 hP2.2.1 (cB_406 hP2).1 ?_
        refine zF_aload_n 59 dX5_prepare_58 rfl rfl ?_
        refine zF_getI 62 dX5_prepare_59 rfl gX5_63 (by decide) (by decide) hP2.1 hP2.2.1 (zsi_N (fun e => absurd (hB.inj _ _ e) (by decide)) e4) ?_
        refine zF_aload_n 63 dX5_prepare_62 rfl rfl ?_
        refine zF_getR 66 dX5_prepare_63 rfl gX5_43 hP2.1 hP2.2.1 hP2.2.2.2.1 ?_
        refine zF_getR 69 dX5_prepare_66 rfl gX5_94 hB2.st.1 hB2.st.2.1 (cB_209 hB2).1 ?_
        refine zF_iload_n 70 dX5_prepare_69 rfl rfl ?_
        refine zF_iaload 71 dX5_prepare_70 rfl (cB_209 hB2).2.2 (cB_209 hB2).2.1 (by omega) (by omega) (zsi_N (fun e => absurd (hB.inj _ _ e) (by decide)) (hR2.s.2.2.1 _ (by omega) (by omega)).2.2.2.2) ?_
        refine zF_if_eq 86 74 dX5_prepare_71 rfl rfl (by first | decide | assumption | exact hb _ | (constructor <;> omega)) (fun c5 => ?_) (fun c5 => ?_)
        · refine zF_bipush 88 dX5_prepare_86 rfl (by decide) ?_
          refine zF_iastore 89 dX5_prepare_88 rfl (cB_406 hP2).2.2 (cB_406 hP2).2.1 (by omega) (by omega) ?_
          refine zF_aload_n 90 dX5_prepare_89 rfl rfl ?_
          refine zF_iconst 91 dX5_prepare_90 rfl ?_
          refine zF_aload_n 92 dX5_prepare_91 rfl rfl ?_
          refine zF_getI 95 dX5_prepare_92 rfl gX5_63 (by decide) (by decide) hP2.1 hP2.2.1 (zsi_N (fun e => absurd (hB.inj _ _ e) (by decide)) (zsi_N (fun e => absurd (hB.inj _ _ e) (by decide)) e4)) ?_
          refine zF_ishl 96 dX5_prepare_95 rfl ?_
          refine zF_I (b := ((2 ^ (mCn N h sx).toNat : Nat) : Int)) (by rw [ecx]; exact bit_shl ⟨(mCn N h sx).toNat, by omega⟩) ?_
          refine zF_aload_n 97 dX5_prepare_96 rfl rfl ?_
          refine zF_getR 100 dX5_prepare_97 rfl gX5_39 hP2.1 hP2.2.1 hP2.2.2.1 ?_
          refine zF_iload_n 101 dX5_prepare_100 rfl rfl ?_
          refine zF_callVi 104 (d2 := (d + 1)) (as := [zI ((sx : Nat) : Int)]) dX5_prepare_101 rfl kX5_100 iX1_capacityOf (ci := 1) rfl eX1_capacityOf (Nat.le_refl _) hB2.ch.1 hB2.ch.2.1 rfl rfl (Nat.le_of_ble_eq_true rfl) (zt_X1_capacityOf hB2 (cR_si (fun i hi e => by have := hB.inj _ _ e; omega) (cR_si (fun i hi e => by have := hB.inj _ _ e; omega) hR2)) hV (by omega) (by omega)) ?_
          refine zF_callV 107 (d2 := (d + 1)) (as := [zI ((2 ^ (mCn N h sx).toNat : Nat) : Int), zI (mCap N ((sx : Nat) : Int))]) dX5_prepare_104 rfl kX5_103 iX5_addRoom (ci := 5) rfl eX5_addRoom (Nat.le_refl _) hP2.1 hP2.2.1 rfl rfl (Nat.le_of_ble_eq_true rfl) (zE.mono (zt_X5_addRoom (σ := (zsi (zsi σ2 (B 405) (mCn N h sx) ((sx : Nat) : Int)) (B 406) (mCn N h sx) (-2))) (N := N) (h := h) (k := (mCn N h sx).toNat) (z := 2 ^ (mCn N h sx).toNat) (by omega) rfl hP2 (fun m hm => (zsi_N (fun e => absurd (hB.inj _ _ e) (by decide)) (zsi_N (fun e => absurd (hB.inj _ _ e) (by decide)) (rm2 m hm)))) (by rw [← ecx, rkx])) fun ro σa1 hh1 => ?_)
          obtain ⟨er1, fr1, p1⟩ := hh1
          subst er1
          refine ⟨fr1.1, ?_⟩
          show zF G mX5_prepare (d + 2) 107 [(2, zI ((sx : Nat) : Int)), (0, zR (B 400)), (1, zI h)] [] σa1 _
          have hBx := cM_fr (σ := (zsi (zsi σ2 (B 405) (mCn N h sx) ((sx : Nat) : Int)) (B 406) (mCn N h sx) (-2))) hB2 fr1
          have hPx := cPr_fr (σ := (zsi (zsi σ2 (B 405) (mCn N h sx) ((sx : Nat) : Int)) (B 406) (mCn N h sx) (-2))) hP2 fr1
          refine zF_aload_n 108 dX5_prepare_107 rfl rfl ?_
          refine zF_dup 109 dX5_prepare_108 rfl rfl ?_
          refine zF_getI 112 dX5_prepare_109 rfl gX5_63 (by decide) (by decide) hPx.1 hPx.2.1 ((fr1.2.2.2.2.2 _ _ (fun q => absurd (hB.inj _ _ q.1) (by decide))).trans (zsi_N (fun e => absurd (hB.inj _ _ e) (by decide)) (zsi_N (fun e => absurd (hB.inj _ _ e) (by decide)) e4))) ?_
          refine zF_iconst 113 dX5_prepare_112 rfl ?_
          refine zF_iadd 114 dX5_prepare_113 rfl ?_
          refine zF_putI 117 dX5_prepare_114 rfl pX5_prepare_63 (Or.inl rfl) hPx.1 hPx.2.1 ?_
          refine zF_iinc 120 (ls' := [(2, zI (((sx : Nat) : Int) + 1)), (0, zR (B 400)), (1, zI h)]) dX5_prepare_117 rfl rfl rfl (by decide) rfl ?_
          refine zF_goto 12 dX5_prepare_120 rfl ?_
          exact zF_locs (ls' := [(2, zI (((sx + 1) : Nat) : Int)), (0, zR (B 400)), (1, zI h)]) ⟨zlI rfl (by first | rfl | omega | (push_cast; omega) | exact congrArg (_ + ·) (zbT (by assumption)) | exact congrArg (_ + ·) (zbF (by assumption)) | exact congrArg (_ + ·) (zbT (by omega)) | exact congrArg (_ + ·) (zbF (by omega)) | exact congrArg (_ + ·) (if_pos (by omega)).symm | exact congrArg (_ + ·) (if_neg (by omega)).symm | exact (if_pos (by omega)).symm | exact (if_neg (by omega)).symm | exact zsub_s (if_pos (by omega)).symm | exact zsub_s0 (if_neg (by omega)).symm | exact zadd0 (if_neg (by omega)).symm | exact zadd0 (zbF (by omega)) | exact (Int.sub_zero _).symm), rfl, rfl, trivial⟩ (ih12 (sx + 1) _ (by omega) (prep_step (h := h) (sx := sx) hB.inj frp e3 (by rw [mCn_s, ← zbT (by omega)]) rkx (by omega) (by omega) ro2 fr1 p1 rfl (ch0_open rkx (by omega)) rfl))
        · refine zF_aload_n 75 dX5_prepare_74 rfl rfl ?_
          refine zF_getR 78 dX5_prepare_75 rfl gX5_43 hP2.1 hP2.2.1 hP2.2.2.2.1 ?_
          refine zF_getR 81 dX5_prepare_78 rfl gX5_97 hB2.st.1 hB2.st.2.1 (cB_206 hB2).1 ?_
          refine zF_iload_n 82 dX5_prepare_81 rfl rfl ?_
          refine zF_iaload 83 dX5_prepare_82 rfl (cB_206 hB2).2.2 (cB_206 hB2).2.1 (by omega) (by omega) (zsi_N (fun e => absurd (hB.inj _ _ e) (by decide)) (hR2.s.2.2.1 _ (by omega) (by omega)).2.1) ?_
          refine zF_goto 88 dX5_prepare_83 rfl ?_
          refine zF_iastore 89 dX5_prepare_88 rfl (cB_406 hP2).2.2 (cB_406 hP2).2.1 (by omega) (by omega) ?_
          refine zF_aload_n 90 dX5_prepare_89 rfl rfl ?_
          refine zF_iconst 91 dX5_prepare_90 rfl ?_
          refine zF_aload_n 92 dX5_prepare_91 rfl rfl ?_
          refine zF_getI 95 dX5_prepare_92 rfl gX5_63 (by decide) (by decide) hP2.1 hP2.2.1 (zsi_N (fun e => absurd (hB.inj _ _ e) (by decide)) (zsi_N (fun e => absurd (hB.inj _ _ e) (by decide)) e4)) ?_
          refine zF_ishl 96 dX5_prepare_95 rfl ?_
          refine zF_I (b := ((2 ^ (mCn N h sx).toNat : Nat) : Int)) (by rw [ecx]; exact bit_shl ⟨(mCn N h sx).toNat, by omega⟩) ?_
          refine zF_aload_n 97 dX5_prepare_96 rfl rfl ?_
          refine zF_getR 100 dX5_prepare_97 rfl gX5_39 hP2.1 hP2.2.1 hP2.2.2.1 ?_
          refine zF_iload_n 101 dX5_prepare_100 rfl rfl ?_
          refine zF_callVi 104 (d2 := (d + 1)) (as := [zI ((sx : Nat) : Int)]) dX5_prepare_101 rfl kX5_100 iX1_capacityOf (ci := 1) rfl eX1_capacityOf (Nat.le_refl _) hB2.ch.1 hB2.ch.2.1 rfl rfl (Nat.le_of_ble_eq_true rfl) (zt_X1_capacityOf hB2 (cR_si (fun i hi e => by have := hB.inj _ _ e; omega) (cR_si (fun i hi e => by have := hB.inj _ _ e; omega) hR2)) hV (by omega) (by omega)) ?_
          refine zF_callV 107 (d2 := (d + 1)) (as := [zI ((2 ^ (mCn N h sx).toNat : Nat) : Int), zI (mCap N ((sx : Nat) : Int))]) dX5_prepare_104 rfl kX5_103 iX5_addRoom (ci := 5) rfl eX5_addRoom (Nat.le_refl _) hP2.1 hP2.2.1 rfl rfl (Nat.le_of_ble_eq_true rfl) (zE.mono (zt_X5_addRoom (σ := (zsi (zsi σ2 (B 405) (mCn N h sx) ((sx : Nat) : Int)) (B 406) (mCn N h sx) (mS N ((sx : Nat) : Int) 4))) (N := N) (h := h) (k := (mCn N h sx).toNat) (z := 2 ^ (mCn N h sx).toNat) (by omega) rfl hP2 (fun m hm => (zsi_N (fun e => absurd (hB.inj _ _ e) (by decide)) (zsi_N (fun e => absurd (hB.inj _ _ e) (by decide)) (rm2 m hm)))) (by rw [← ecx, rkx])) fun ro σa2 hh2 => ?_)
          obtain ⟨er2, fr2, p2⟩ := hh2
          subst er2
          refine ⟨fr2.1, ?_⟩
          show zF G mX5_prepare (d + 2) 107 [(2, zI ((sx : Nat) : Int)), (0, zR (B 400)), (1, zI h)] [] σa2 _
          have hBx := cM_fr (σ := (zsi (zsi σ2 (B 405) (mCn N h sx) ((sx : Nat) : Int)) (B 406) (mCn N h sx) (mS N ((sx : Nat) : Int) 4))) hB2 fr2
          have hPx := cPr_fr (σ := (zsi (zsi σ2 (B 405) (mCn N h sx) ((sx : Nat) : Int)) (B 406) (mCn N h sx) (mS N ((sx : Nat) : Int) 4))) hP2 fr2
          refine zF_aload_n 108 dX5_prepare_107 rfl rfl ?_
          refine zF_dup 109 dX5_prepare_108 rfl rfl ?_
          refine zF_getI 112 dX5_prepare_109 rfl gX5_63 (by decide) (by decide) hPx.1 hPx.2.1 ((fr2.2.2.2.2.2 _ _ (fun q => absurd (hB.inj _ _ q.1) (by decide))).trans (zsi_N (fun e => absurd (hB.inj _ _ e) (by decide)) (zsi_N (fun e => absurd (hB.inj _ _ e) (by decide)) e4))) ?_
          refine zF_iconst 113 dX5_prepare_112 rfl ?_
          refine zF_iadd 114 dX5_prepare_113 rfl ?_
          refine zF_putI 117 dX5_prepare_114 rfl pX5_prepare_63 (Or.inl rfl) hPx.1 hPx.2.1 ?_
          refine zF_iinc 120 (ls' := [(2, zI (((sx : Nat) : Int) + 1)), (0, zR (B 400)), (1, zI h)]) dX5_prepare_117 rfl rfl rfl (by decide) rfl ?_
          refine zF_goto 12 dX5_prepare_120 rfl ?_
          exact zF_locs (ls' := [(2, zI (((sx + 1) : Nat) : Int)), (0, zR (B 400)), (1, zI h)]) ⟨zlI rfl (by first | rfl | omega | (push_cast; omega) | exact congrArg (_ + ·) (zbT (by assumption)) | exact congrArg (_ + ·) (zbF (by assumption)) | exact congrArg (_ + ·) (zbT (by omega)) | exact congrArg (_ + ·) (zbF (by omega)) | exact congrArg (_ + ·) (if_pos (by omega)).symm | exact congrArg (_ + ·) (if_neg (by omega)).symm | exact (if_pos (by omega)).symm | exact (if_neg (by omega)).symm | exact zsub_s (if_pos (by omega)).symm | exact zsub_s0 (if_neg (by omega)).symm | exact zadd0 (if_neg (by omega)).symm | exact zadd0 (zbF (by omega)) | exact (Int.sub_zero _).symm), rfl, rfl, trivial⟩ (ih12 (sx + 1) _ (by omega) (prep_step (h := h) (sx := sx) hB.inj frp e3 (by rw [mCn_s, ← zbT (by omega)]) rkx (by omega) (by omega) ro2 fr2 p2 rfl (ch0_held rkx (by omega)) rfl))
end ZC11

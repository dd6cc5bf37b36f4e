/-! the law's own chain: the roster of a house, its best program -/
section ZE3
variable {G : zG} {M : zMeth} {d pc : Nat} {ls : List (Nat × zV)} {st : List zV} {σ : zMem} {Q : zRes → zMem → Prop} {E : Nat → Nat} {N : Int → Int}
def roP (N : Int → Int) (h : Int) (σ σ1 : zMem) : Prop := zGw (zn σ) σ σ1 ∧ (zn σ1 = zn σ + 1 ∧ zcs σ1 = zcs σ + 1 ∧ zss σ1 = zss σ + nn N h) ∧ zkd σ1 (zn σ) = (1, nn N h) ∧ ∀ k : Nat, k < nn N h → zia σ1 (zn σ) k = rk N h k
theorem ro_step {h : Int} {σ2 : zMem} {a y : Nat} {u v : Int} (hy : y < nS N) (e : mS N y 0 = h) (p : ∀ k, mCn N h (y + 1) ≤ k → k < mCn N h (nS N) → zia σ2 a k = rk N h k) (eu : u = mCn N h y) (ev : v = (y : Int)) : ∀ k, mCn N h y ≤ k → k < mCn N h (nS N) → zia (zsi σ2 a u v) a k = rk N h k := fun k k0 k1 => by
  have hs := mCn_s N h y
  have hz : (1 : Int) = zb (mS N (y : Int) 0 = h) := zbT e
  rw [zia_si]
  by_cases q : k = u
  · rw [if_pos ⟨rfl, q⟩, q, eu, rk_inj N h hy e, ev]
  · rw [if_neg fun z => q z.2]
    exact p k (by omega) k1
theorem ro_skip {h : Int} {σ2 : zMem} {a y : Nat} (e : ¬ mS N y 0 = h) (p : ∀ k, mCn N h (y + 1) ≤ k → k < mCn N h (nS N) → zia σ2 a k = rk N h k) : ∀ k, mCn N h y ≤ k → k < mCn N h (nS N) → zia σ2 a k = rk N h k := fun k k0 k1 => by
  have hs := mCn_s N h y
  have hz : (0 : Int) = zb (mS N (y : Int) 0 = h) := zbF e
  exact p k (by omega) k1
theorem rW_b {F : Int} (hF : 0 ≤ F) (hF6 : F ≤ 6) (ch : Int → Int) {n : Nat} (hn : n ≤ 4) : 1 ≤ rW F ch n ∧ rW F ch n ≤ 2401 := by
  have st : ∀ (m : Nat) (X : Int), 1 ≤ rW F ch m ∧ rW F ch m ≤ X → 1 ≤ rW F ch (m + 1) ∧ rW F ch (m + 1) ≤ X * 7 := fun m X i => by
    have q := zmul_b (a := rW F ch m) (b := F + 1) (X := X) (Y := 7) (by omega) (by omega) (by omega) (by omega)
    have q1 : rW F ch m * 1 ≤ rW F ch m * (F + 1) := Int.mul_le_mul_of_nonneg_left (by omega) (by omega)
    unfold rW
    split <;> omega
  have b0 : 1 ≤ rW F ch 0 ∧ rW F ch 0 ≤ 1 := ⟨Int.le_refl _, Int.le_refl _⟩
  have b1 : 1 ≤ rW F ch 1 ∧ rW F ch 1 ≤ 1 * 7 := st 0 1 b0
  have b2 : 1 ≤ rW F ch 2 ∧ rW F ch 2 ≤ 1 * 7 * 7 := st 1 _ b1
  have b3 : 1 ≤ rW F ch 3 ∧ rW F ch 3 ≤ 1 * 7 * 7 * 7 := st 2 _ b2
  have b4 : 1 ≤ rW F ch 4 ∧ rW F ch 4 ≤ 1 * 7 * 7 * 7 * 7 := st 3 _ b3
  have c : n = 0 ∨ n = 1 ∨ n = 2 ∨ n = 3 ∨ n = 4 := by omega
  rcases c with c | c | c | c | c <;> subst c <;> omega
/-- what the programs of codes less than x say -/
def cI (N : Int → Int) (h : Int) (lim ch : Int → Int) (x : Int) (best : Int → Int) (bg : Int) : Prop :=
  -1 ≤ bg ∧ (∀ u, pVc (N 2) ch (nn N h) u → rR (N 2) ch u (nn N h) < x → pG N h lim u ≤ bg) ∧
  (bg = -1 ∨ (pVc (N 2) ch (nn N h) best ∧ pG N h lim best = bg ∧ rR (N 2) ch best (nn N h) < x ∧ ∀ u, pVc (N 2) ch (nn N h) u → rR (N 2) ch u (nn N h) < x → pG N h lim u = bg → rR (N 2) ch best (nn N h) ≤ rR (N 2) ch u (nn N h)))
theorem cI_0 (hF : 0 ≤ N 2) {h : Int} {lim ch best : Int → Int} : cI N h lim ch 0 best (-1) := ⟨by omega, fun u hu le => by have := (rR_b hF hu).1; omega, Or.inl rfl⟩
theorem cI_w {h x : Int} {lim ch t best : Int → Int} {bg : Int} (i : pInw N h lim ch t best bg) (e : rR (N 2) ch t (nn N h) = x) : cI N h lim ch (x + 1) best bg := by
  obtain ⟨i1, i0, i2, i3⟩ := i
  refine ⟨i0, fun u hu le => i2 u hu (by omega), ?_⟩
  rcases i3 with z | ⟨a, b, c, g⟩
  · exact Or.inl z
  · exact Or.inr ⟨a, b, by omega, fun u hu le hg => g u hu (by omega) hg⟩
theorem cI_v {h x : Int} {lim ch t best : Int → Int} {bg : Int} (i : cI N h lim ch x best bg) (v : pVc (N 2) ch (nn N h) t) (e : rR (N 2) ch t (nn N h) = x) : pInv N h lim ch t best bg := by
  subst e
  exact ⟨v, i.1, i.2.1, i.2.2⟩
theorem cI_less (hF : 0 ≤ N 2) {h x : Int} {lim ch t best best' : Int → Int} {bg : Int} (i : cI N h lim ch x best bg) (v : pVc (N 2) ch (nn N h) t) (e : rR (N 2) ch t (nn N h) = x) (c : pG N h lim t ≤ bg) : cI N h lim ch (x + 1) best bg := cI_w (pInv_less hF (cI_v i v e) c) e
theorem cI_more (hF : 0 ≤ N 2) {h x : Int} {lim ch t best best' : Int → Int} {bg : Int} (i : cI N h lim ch x best bg) (v : pVc (N 2) ch (nn N h) t) (e : rR (N 2) ch t (nn N h) = x) (c : bg < pG N h lim t) (eb : ∀ k : Nat, k < nn N h → best' k = t k) : cI N h lim ch (x + 1) best' (pG N h lim t) := cI_w (pInv_more hF (cI_v i v e) c eb) e
theorem cI_end (hV : mV N) (hQ : mC4 N) {h : Int} (h0 : 0 ≤ h) (h1 : h < 4) {lim ch best : Int → Int} {bg : Int} (i : cI N h lim ch (rW (N 2) ch (nn N h)) best bg) : pMax N h lim ch bg ∧ (0 ≤ bg → pLx N h lim ch best) := by
  have hn := hV.n
  obtain ⟨i0, i2, i3⟩ := i
  have all : ∀ u, pVc (N 2) ch (nn N h) u → rR (N 2) ch u (nn N h) < rW (N 2) ch (nn N h) := fun u hu => by
    have := rR_b (F := N 2) (by omega) hu
    omega
  refine ⟨⟨?_, fun u hu => i2 u hu (all u hu)⟩, fun b0 => ?_⟩
  · rcases i3 with z | ⟨a, b, c, g⟩
    · have v : pVc (N 2) ch (nn N h) (fun k => if ch k = -2 then -1 else ch k) := fun k hk => ⟨fun e => by simp only [e, if_true]; omega, fun e => if_neg e⟩
      refine ⟨_, v, ?_⟩
      have q := i2 _ v (all _ v)
      have := pGN_b hV hQ h0 h1 lim (fun k => if ch k = -2 then -1 else ch k) (Nat.le_refl (nF N))
      unfold pG at q ⊢
      omega
    · exact ⟨best, a, b⟩
  · rcases i3 with z | ⟨a, b, c, g⟩
    · omega
    · exact ⟨a, fun u hu => by rw [b]; exact i2 u hu (all u hu), fun u hu hg => g u hu (all u hu) (by rw [hg, b])⟩
/-- the digits of a code, from the last place on: lf is left for the places less than y -/
def dgI (N : Int → Int) (h x : Int) (ch : Int → Int) (y : Nat) (lf : Int) (g : Int → Int) : Prop :=
  y ≤ nn N h ∧ 0 ≤ lf ∧ lf < rW (N 2) ch y ∧ (∀ t : Int → Int, (∀ k : Nat, y ≤ k → k < nn N h → t k = g k) → rR (N 2) ch t y = lf → rR (N 2) ch t (nn N h) = x) ∧
  ∀ k : Nat, y ≤ k → k < nn N h → (ch k = -2 → -1 ≤ g k ∧ g k < N 2) ∧ (ch k ≠ -2 → g k = ch k)
theorem dg_0 {h x : Int} {ch g : Int → Int} (x0 : 0 ≤ x) (x1 : x < rW (N 2) ch (nn N h)) : dgI N h x ch (nn N h) x g := ⟨Nat.le_refl _, x0, x1, fun t _ e => e, fun k a b => absurd b (by omega)⟩
theorem dg_open (hF : 0 ≤ N 2) {h x lf : Int} {ch g g' : Int → Int} {y : Nat} (i : dgI N h x ch (y + 1) lf g) (c : ch y = -2) (e1 : g' y = lf % (N 2 + 1) - 1) (e2 : ∀ k : Nat, k ≠ y → g' k = g k) : dgI N h x ch y (lf / (N 2 + 1)) g' := by
  obtain ⟨i0, i1, i2, i3, i4⟩ := i
  have m0 := Int.emod_nonneg lf (show N 2 + 1 ≠ 0 by omega)
  have m1 := Int.emod_lt_of_pos lf (show 0 < N 2 + 1 by omega)
  have dm := Int.mul_ediv_add_emod lf (N 2 + 1)
  have ew : rW (N 2) ch (y + 1) = rW (N 2) ch y * (N 2 + 1) := by
    show (if ch y = -2 then _ else _) = _
    rw [if_pos c]
  rw [ew] at i2
  refine ⟨by omega, Int.ediv_nonneg i1 (by omega), Int.ediv_lt_of_lt_mul (by omega) i2, fun t ht er => i3 t (fun k a b => (ht k (by omega) b).trans (e2 k (by omega))) ?_, fun k a b => ?_⟩
  · show (if ch y = -2 then rR (N 2) ch t y * (N 2 + 1) + (t y + 1) else _) = lf
    rw [if_pos c, er, ht y (Nat.le_refl _) (by omega), e1, Int.mul_comm (lf / (N 2 + 1))]
    omega
  · by_cases q : k = y
    · subst q
      exact ⟨fun _ => by rw [e1]; omega, fun z => absurd c z⟩
    · rw [e2 k q]
      exact i4 k (by omega) b
theorem dg_held {h x lf : Int} {ch g g' : Int → Int} {y : Nat} (i : dgI N h x ch (y + 1) lf g) (c : ch y ≠ -2) (e1 : g' y = ch y) (e2 : ∀ k : Nat, k ≠ y → g' k = g k) : dgI N h x ch y lf g' := by
  obtain ⟨i0, i1, i2, i3, i4⟩ := i
  have ew : rW (N 2) ch (y + 1) = rW (N 2) ch y := by
    show (if ch y = -2 then _ else _) = _
    rw [if_neg c]
  rw [ew] at i2
  refine ⟨by omega, i1, i2, fun t ht er => i3 t (fun k a b => (ht k (by omega) b).trans (e2 k (by omega))) ?_, fun k a b => ?_⟩
  · show (if ch y = -2 then _ else rR (N 2) ch t y) = lf
    rw [if_neg c, er]
  · by_cases q : k = y
    · subst q
      exact ⟨fun z => absurd z c, fun _ => e1⟩
    · rw [e2 k q]
      exact i4 k (by omega) b
theorem dg_end {h x lf : Int} {ch g : Int → Int} (i : dgI N h x ch 0 lf g) : pVc (N 2) ch (nn N h) g ∧ rR (N 2) ch g (nn N h) = x := by
  obtain ⟨i0, i1, i2, i3, i4⟩ := i
  have e : rW (N 2) ch 0 = 1 := rfl
  exact ⟨fun k hk => i4 k (by omega) hk, i3 g (fun k _ _ => rfl) (by show (0 : Int) = lf; omega)⟩
/-- the memory of the search: roster, best, tried -/
def bS (N : Int → Int) (h : Int) (σ σ1 : zMem) : Prop := zGw (zn σ) σ σ1 ∧ (zn σ1 = zn σ + 3 ∧ zcs σ1 = zcs σ + 3 ∧ zss σ1 = zss σ + (3 * nn N h + 1)) ∧ zkd σ1 (zn σ) = (1, nn N h) ∧ zkd σ1 (zn σ + 1) = (1, nn N h + 1) ∧ zkd σ1 (zn σ + 2) = (1, nn N h) ∧ ∀ k : Nat, k < nn N h → zia σ1 (zn σ) k = rk N h k
theorem bS.si {h : Int} {σ1 : zMem} {a : Nat} {j v : Int} (b : bS N h σ σ1) (ha : a = zn σ + 1 ∨ a = zn σ + 2) : bS N h σ (zsi σ1 a j v) := ⟨zGw_si b.1 (by omega), b.2.1, b.2.2.1, b.2.2.2.1, b.2.2.2.2.1, fun k hk => by rw [zia_si, if_neg (by omega)]; exact b.2.2.2.2.2 k hk⟩
theorem ch0_o2 (hV : mV N) {h : Int} {k : Nat} (hk : k < nn N h) : ch0 N h k = -2 ↔ mS N (rk N h k) 7 ≠ 1 := by
  have hn := hV.n
  have r := rk_b hV (h := h) (k := (k : Int)) (by omega) (by omega)
  have hs := hV.s (rk N h k) r.1 (by omega)
  unfold ch0
  split <;> omega
theorem ch0_h2 {h : Int} {k : Nat} (e : mS N (rk N h k) 7 = 1) : ch0 N h k = mS N (rk N h k) 4 := if_pos e
theorem rW_s (hV : mV N) {h : Int} {k : Nat} (hk : k < nn N h) : (mS N (rk N h k) 7 = 1 → rW (N 2) (ch0 N h) (k + 1) = rW (N 2) (ch0 N h) k) ∧ (mS N (rk N h k) 7 ≠ 1 → rW (N 2) (ch0 N h) (k + 1) = rW (N 2) (ch0 N h) k * (N 2 + 1)) := by
  have q := ch0_o2 hV hk
  refine ⟨fun e => ?_, fun e => ?_⟩
  · show (if ch0 N h k = -2 then _ else _) = _
    rw [if_neg fun z => q.1 z e]
  · show (if ch0 N h k = -2 then _ else _) = _
    rw [if_pos (q.2 e)]
theorem bS_mk {h : Int} {σa : zMem} (r : roP N h σ σa) : bS N h σ (znw (zsi (znw σa 1 (nn N h + 1) (nn N h + 1)) (zn σ + 1) ((nn N h : Nat) : Int) (-1)) 1 (nn N h) (nn N h)) ∧ zia (znw (zsi (znw σa 1 (nn N h + 1) (nn N h + 1)) (zn σ + 1) ((nn N h : Nat) : Int) (-1)) 1 (nn N h) (nn N h)) (zn σ + 1) ((nn N h : Nat) : Int) = -1 := by
  obtain ⟨g, ⟨z1, z2, z3⟩, k, p⟩ := r
  refine ⟨⟨zGw_nw (zGw_si (zGw_nw g (by omega)) (by omega)) (by rw [zn_si, zn_nw]; omega), ⟨?_, ?_, ?_⟩, ?_, ?_, ?_, fun j hj => ?_⟩, ?_⟩
  · rw [zn_nw, zn_si, zn_nw]; omega
  · rw [zcs_nw, zcs_si, zcs_nw]; omega
  · rw [zss_nw, zss_si, zss_nw]; omega
  · rw [zkd_nw, zn_si, zn_nw, if_neg (by omega), zkd_si, zkd_nw, if_neg (by omega)]; exact k
  · rw [zkd_nw, zn_si, zn_nw, if_neg (by omega), zkd_si, zkd_nw, if_pos (by omega)]
  · rw [zkd_nw, zn_si, zn_nw, if_pos (by omega)]
  · rw [zia_nw, zn_si, zn_nw, if_neg (by omega), zia_si, if_neg (by omega), zia_nw, if_neg (by omega)]; exact p j hj
  · rw [zia_nw, zn_si, zn_nw, if_neg (by omega), zia_si, if_pos ⟨rfl, rfl⟩]
theorem pVc_rg (hV : mV N) {h : Int} {t : Int → Int} (v : pVc (N 2) (ch0 N h) (nn N h) t) : ∀ k : Nat, k < nn N h → zrg (t k) := fun k hk => by
  have hn := hV.n
  have q := v k hk
  have r := rk_b hV (h := h) (k := (k : Int)) (by omega) (by omega)
  have hs := hV.s (rk N h k) r.1 (by omega)
  have o := ch0_o2 hV hk
  by_cases e : mS N (rk N h k) 7 = 1
  · have a := q.2 fun z => o.1 z e
    rw [ch0_h2 e] at a
    exact ⟨by omega, by omega⟩
  · have a := q.1 (o.2 e)
    exact ⟨by omega, by omega⟩
theorem pG_rg (hV : mV N) (hQ : mC4 N) {h : Int} (h0 : 0 ≤ h) (h1 : h < 4) (lim t : Int → Int) : -1 ≤ pG N h lim t ∧ pG N h lim t ≤ 50000000 := by
  have a := pGN_b hV hQ h0 h1 lim t (Nat.le_refl (nF N))
  have b := nF_eq hV
  unfold pG
  omega
theorem cI_rg (hV : mV N) (hQ : mC4 N) {h x bg : Int} (h0 : 0 ≤ h) (h1 : h < 4) {lim ch best : Int → Int} (i : cI N h lim ch x best bg) : zrg bg := by
  rcases i.2.2 with z | ⟨-, z, -⟩
  · rw [z]; exact ⟨by omega, by omega⟩
  · have := pG_rg hV hQ h0 h1 lim best
    rw [z] at this
    exact ⟨by omega, by omega⟩
theorem zt_X12_roster {h : Int} (hE : eO N σ E) (hV : mV N) (hQ : mC4 N) (zh : zrg h) (hz : zn σ + 1 < zbg) : zE G mX12_roster d [zR (E 0), zI h] σ (fun ro σ1 => ro = .inl (some (zR (zn σ))) ∧ roP N h σ σ1) := by
  refine zE_of rfl (by simp [zcat]) (Nat.le_of_ble_eq_true rfl) ?_
  show zF G mX12_roster d 0 [(0, zR (E 0)), (1, zI h)] [] σ _
  have hb := hV.b
  have hn := hV.n
  have hh := nS_eq hV
  have hnn := nn_eq hQ h
  refine zF_iconst 1 dX12_roster_0 rfl ?_
  refine zF_istore_n 2 (ls' := [(2, zI 0), (0, zR (E 0)), (1, zI h)]) dX12_roster_1 rfl (by decide) rfl ?_
  refine zF_iconst 3 dX12_roster_2 rfl ?_
  refine zF_istore_n 4 (ls' := [(3, zI 0), (2, zI 0), (0, zR (E 0)), (1, zI h)]) dX12_roster_3 rfl (by decide) rfl ?_
  refine zF_locs (ls' := (fun (i : Nat) => [(3, zI (i : Int)), (2, zI (mCn N h i)), (0, zR (E 0)), (1, zI h)]) 0) ⟨zlI rfl (by first | rfl | omega | (push_cast; omega) | exact congrArg (_ + ·) (zbT (by assumption)) | exact congrArg (_ + ·) (zbF (by assumption)) | exact congrArg (_ + ·) (zbT (by omega)) | exact congrArg (_ + ·) (zbF (by omega)) | exact congrArg (_ + ·) (if_pos (by omega)).symm | exact congrArg (_ + ·) (if_neg (by omega)).symm | exact (if_pos (by omega)).symm | exact (if_neg (by omega)).symm | exact zsub_s (if_pos (by omega)).symm | exact zsub_s0 (if_neg (by omega)).symm | exact zadd0 (if_neg (by omega)).symm | exact zadd0 (zbF (by omega)) | exact (Int.sub_zero _).symm), zlI rfl (by first | rfl | omega | (push_cast; omega) | exact congrArg (_ + ·) (zbT (by assumption)) | exact congrArg (_ + ·) (zbF (by assumption)) | exact congrArg (_ + ·) (zbT (by omega)) | exact congrArg (_ + ·) (zbF (by omega)) | exact congrArg (_ + ·) (if_pos (by omega)).symm | exact congrArg (_ + ·) (if_neg (by omega)).symm | exact (if_pos (by omega)).symm | exact (if_neg (by omega)).symm | exact zsub_s (if_pos (by omega)).symm | exact zsub_s0 (if_neg (by omega)).symm | exact zadd0 (if_neg (by omega)).symm | exact zadd0 (zbF (by omega)) | exact (Int.sub_zero _).symm), rfl, rfl, trivial⟩ ?_
  refine zF_loop (n := (nS N)) (fun (i : Nat) => [(3, zI (i : Int)), (2, zI (mCn N h i)), (0, zR (E 0)), (1, zI h)]) (fun _ => σ) (fun i hi ih4 => ?_) ?_
  · show zF G mX12_roster d 4 [(3, zI (i : Int)), (2, zI (mCn N h i)), (0, zR (E 0)), (1, zI h)] [] σ _
    refine zF_iload_n 5 dX12_roster_4 rfl rfl ?_
    refine zF_aload_n 6 dX12_roster_5 rfl rfl ?_
    refine zF_getI 9 dX12_roster_6 rfl gX12_39 (by decide) (by decide) hE.k0 hE.l0 hE.i1 ?_
    refine zF_icmp_ge 38 12 dX12_roster_9 rfl rfl (by first | decide | assumption | exact hb _ | exact mSh_rg hb _ _ | exact zb_rg _ | (constructor <;> omega)) (by first | decide | assumption | exact hb _ | exact mSh_rg hb _ _ | exact zb_rg _ | (constructor <;> omega)) (fun c1 => ?_) (fun c1 => ?_)
    · exact absurd c1 (by omega)
    · refine zF_iload_n 13 dX12_roster_12 rfl rfl ?_
      refine zF_aload_n 14 dX12_roster_13 rfl rfl ?_
      refine zF_getR 17 dX12_roster_14 rfl gX12_15 hE.k0 hE.l0 (hE.f 7 6 10 (by decide)).1 ?_
      refine zF_iload_n 18 dX12_roster_17 rfl rfl ?_
      refine zF_aaldA 19 dX12_roster_18 rfl (hE.f 7 6 10 (by decide)).2.2 (hE.f 7 6 10 (by decide)).2.1 (by omega) (by omega) (hE.r7 _ (by omega) (by omega)).1 ?_
      refine zF_iconst 20 dX12_roster_19 rfl ?_
      refine zF_iaload 21 dX12_roster_20 rfl (hE.r7 _ (by omega) (by omega)).2.2 (hE.r7 _ (by omega) (by omega)).2.1 (by omega) (by omega) (hE.c7 _ _ (by omega) (by omega) (by omega) (by omega)) ?_
      refine zF_iload_n 22 dX12_roster_21 rfl rfl ?_
      refine zF_icmp_ne 29 25 dX12_roster_22 rfl rfl (by first | decide | assumption | exact hb _ | exact mSh_rg hb _ _ | exact zb_rg _ | (constructor <;> omega)) (by first | decide | assumption | exact hb _ | exact mSh_rg hb _ _ | exact zb_rg _ | (constructor <;> omega)) (fun c2 => ?_) (fun c2 => ?_)
      · refine zF_iconst 30 dX12_roster_29 rfl ?_
        refine zF_iadd 31 dX12_roster_30 rfl ?_
        refine zF_istore_n 32 (ls' := [(2, zI ((mCn N h i) + 0)), (3, zI (i : Int)), (0, zR (E 0)), (1, zI h)]) dX12_roster_31 rfl (by decide) rfl ?_
        refine zF_iinc 35 (ls' := [(3, zI ((i : Int) + 1)), (2, zI ((mCn N h i) + 0)), (0, zR (E 0)), (1, zI h)]) dX12_roster_32 rfl rfl rfl (by decide) rfl ?_
        refine zF_goto 4 dX12_roster_35 rfl ?_
        exact zF_locs (ls' := [(3, zI ((i + 1 : Nat) : Int)), (2, zI (mCn N h (i + 1))), (0, zR (E 0)), (1, zI h)]) ⟨zlI rfl (by first | rfl | omega | (push_cast; omega) | exact congrArg (_ + ·) (zbT (by assumption)) | exact congrArg (_ + ·) (zbF (by assumption)) | exact congrArg (_ + ·) (zbT (by omega)) | exact congrArg (_ + ·) (zbF (by omega)) | exact congrArg (_ + ·) (if_pos (by omega)).symm | exact congrArg (_ + ·) (if_neg (by omega)).symm | exact (if_pos (by omega)).symm | exact (if_neg (by omega)).symm | exact zsub_s (if_pos (by omega)).symm | exact zsub_s0 (if_neg (by omega)).symm | exact zadd0 (if_neg (by omega)).symm | exact zadd0 (zbF (by omega)) | exact (Int.sub_zero _).symm), zlI rfl (by first | rfl | omega | (push_cast; omega) | exact congrArg (_ + ·) (zbT (by assumption)) | exact congrArg (_ + ·) (zbF (by assumption)) | exact congrArg (_ + ·) (zbT (by omega)) | exact congrArg (_ + ·) (zbF (by omega)) | exact congrArg (_ + ·) (if_pos (by omega)).symm | exact congrArg (_ + ·) (if_neg (by omega)).symm | exact (if_pos (by omega)).symm | exact (if_neg (by omega)).symm | exact zsub_s (if_pos (by omega)).symm | exact zsub_s0 (if_neg (by omega)).symm | exact zadd0 (if_neg (by omega)).symm | exact zadd0 (zbF (by omega)) | exact (Int.sub_zero _).symm), rfl, rfl, trivial⟩ ih4
      · refine zF_iconst 26 dX12_roster_25 rfl ?_
        refine zF_goto 30 dX12_roster_26 rfl ?_
        refine zF_iadd 31 dX12_roster_30 rfl ?_
        refine zF_istore_n 32 (ls' := [(2, zI ((mCn N h i) + 1)), (3, zI (i : Int)), (0, zR (E 0)), (1, zI h)]) dX12_roster_31 rfl (by decide) rfl ?_
        refine zF_iinc 35 (ls' := [(3, zI ((i : Int) + 1)), (2, zI ((mCn N h i) + 1)), (0, zR (E 0)), (1, zI h)]) dX12_roster_32 rfl rfl rfl (by decide) rfl ?_
        refine zF_goto 4 dX12_roster_35 rfl ?_
        exact zF_locs (ls' := [(3, zI ((i + 1 : Nat) : Int)), (2, zI (mCn N h (i + 1))), (0, zR (E 0)), (1, zI h)]) ⟨zlI rfl (by first | rfl | omega | (push_cast; omega) | exact congrArg (_ + ·) (zbT (by assumption)) | exact congrArg (_ + ·) (zbF (by assumption)) | exact congrArg (_ + ·) (zbT (by omega)) | exact congrArg (_ + ·) (zbF (by omega)) | exact congrArg (_ + ·) (if_pos (by omega)).symm | exact congrArg (_ + ·) (if_neg (by omega)).symm | exact (if_pos (by omega)).symm | exact (if_neg (by omega)).symm | exact zsub_s (if_pos (by omega)).symm | exact zsub_s0 (if_neg (by omega)).symm | exact zadd0 (if_neg (by omega)).symm | exact zadd0 (zbF (by omega)) | exact (Int.sub_zero _).symm), zlI rfl (by first | rfl | omega | (push_cast; omega) | exact congrArg (_ + ·) (zbT (by assumption)) | exact congrArg (_ + ·) (zbF (by assumption)) | exact congrArg (_ + ·) (zbT (by omega)) | exact congrArg (_ + ·) (zbF (by omega)) | exact congrArg (_ + ·) (if_pos (by omega)).symm | exact congrArg (_ + ·) (if_neg (by omega)).symm | exact (if_pos (by omega)).symm | exact (if_neg (by omega)).symm | exact zsub_s (if_pos (by omega)).symm | exact zsub_s0 (if_neg (by omega)).symm | exact zadd0 (if_neg (by omega)).symm | exact zadd0 (zbF (by omega)) | exact (Int.sub_zero _).symm), rfl, rfl, trivial⟩ ih4
  · show zF G mX12_roster d 4 [(3, zI (((nS N) : Nat) : Int)), (2, zI (mCn N h (nS N))), (0, zR (E 0)), (1, zI h)] [] σ _
    refine zF_iload_n 5 dX12_roster_4 rfl rfl ?_
    refine zF_aload_n 6 dX12_roster_5 rfl rfl ?_
    refine zF_getI 9 dX12_roster_6 rfl gX12_39 (by decide) (by decide) hE.k0 hE.l0 hE.i1 ?_
    refine zF_icmp_ge 38 12 dX12_roster_9 rfl rfl (by first | decide | assumption | exact hb _ | exact mSh_rg hb _ _ | exact zb_rg _ | (constructor <;> omega)) (by first | decide | assumption | exact hb _ | exact mSh_rg hb _ _ | exact zb_rg _ | (constructor <;> omega)) (fun c3 => ?_) (fun c3 => ?_)
    · refine zF_iload_n 39 dX12_roster_38 rfl rfl ?_
      refine zF_newarray 41 dX12_roster_39 rfl (Or.inl ⟨rfl, rfl⟩) (zi1 152 rfl rfl) (by omega) (by omega) (by omega) (zwl_q (by exact (⟨trivial, trivial, zwR hE.l0, trivial, trivial⟩ : _ ∧ _ ∧ _ ∧ _ ∧ True))) (zwl_m (by exact trivial)) ?_
      show zF G mX12_roster d 41 [(3, zI (((nS N) : Nat) : Int)), (2, zI (mCn N h (nS N))), (0, zR (E 0)), (1, zI h)] [zR (zn σ)] (znw σ 1 (nn N h) (nn N h)) _
      refine zF_astore_n 42 (ls' := [(3, zR (zn σ)), (2, zI (mCn N h (nS N))), (0, zR (E 0)), (1, zI h)]) dX12_roster_41 rfl (by decide) rfl ?_
      have hEn : eO N (znw σ 1 (nn N h) (nn N h)) E := eO.gw hV hE (zGw_nw zGw.rf (Nat.le_refl _))
      refine zF_aload_n 43 dX12_roster_42 rfl rfl ?_
      refine zF_getI 46 dX12_roster_43 rfl gX12_39 (by decide) (by decide) hEn.k0 hEn.l0 hEn.i1 ?_
      refine zF_iconst 47 dX12_roster_46 rfl ?_
      refine zF_isub 48 dX12_roster_47 rfl ?_
      refine zF_istore 50 (ls' := [(4, zI ((N 1) - 1)), (3, zR (zn σ)), (2, zI (mCn N h (nS N))), (0, zR (E 0)), (1, zI h)]) dX12_roster_48 rfl (by decide) rfl ?_
      refine zF_locs (ls' := [(4, zI ((((nS N) : Nat) : Int) - 1)), (3, zR (zn σ)), (2, zI (mCn N h (nS N))), (0, zR (E 0)), (1, zI h)]) ⟨zlI rfl (by first | rfl | omega | (push_cast; omega) | exact congrArg (_ + ·) (zbT (by assumption)) | exact congrArg (_ + ·) (zbF (by assumption)) | exact congrArg (_ + ·) (zbT (by omega)) | exact congrArg (_ + ·) (zbF (by omega)) | exact congrArg (_ + ·) (if_pos (by omega)).symm | exact congrArg (_ + ·) (if_neg (by omega)).symm | exact (if_pos (by omega)).symm | exact (if_neg (by omega)).symm | exact zsub_s (if_pos (by omega)).symm | exact zsub_s0 (if_neg (by omega)).symm | exact zadd0 (if_neg (by omega)).symm | exact zadd0 (zbF (by omega)) | exact (Int.sub_zero _).symm), rfl, rfl, rfl, rfl, trivial⟩ ?_
      refine zF_while (X := Nat) (fun x => x) (fun x σ2 => x ≤ nS N ∧ zGw (zn σ) σ σ2 ∧ (zn σ2 = zn σ + 1 ∧ zcs σ2 = zcs σ + 1 ∧ zss σ2 = zss σ + nn N h) ∧ zkd σ2 (zn σ) = (1, nn N h) ∧ ∀ k : Int, mCn N h x ≤ k → k < mCn N h (nS N) → zia σ2 (zn σ) k = rk N h k) (fun x => [(4, zI (((x : Nat) : Int) - 1)), (3, zR (zn σ)), (2, zI (mCn N h x)), (0, zR (E 0)), (1, zI h)]) ?_ (nS N) (znw σ 1 (nn N h) (nn N h)) (⟨Nat.le_refl _, zGw_nw zGw.rf (Nat.le_refl _), ⟨rfl, rfl, rfl⟩, by rw [zkd_nw, if_pos rfl], fun k a b => absurd b (by omega)⟩)
      intro x σ2 hI50 ih50
      show zF G mX12_roster d 50 [(4, zI (((x : Nat) : Int) - 1)), (3, zR (zn σ)), (2, zI (mCn N h x)), (0, zR (E 0)), (1, zI h)] [] σ2 _
      obtain ⟨hx, g2, z2, k2, p2⟩ := hI50
      have hE2 := eO.gw hV hE g2
      have hcb := mCn_b N h x
      have hcm := mCn_mono N h hx
      refine zF_iload 52 dX12_roster_50 rfl rfl ?_
      refine zF_if_lt 82 55 dX12_roster_52 rfl rfl (by first | decide | assumption | exact hb _ | exact mSh_rg hb _ _ | exact zb_rg _ | (constructor <;> omega)) (fun c4 => ?_) (fun c4 => ?_)
      · refine zF_aload_n 83 dX12_roster_82 rfl rfl ?_
        exact zF_areturn dX12_roster_83 rfl (by have ex : x = 0 := (by omega); subst ex; exact ⟨rfl, g2, z2, k2, fun k hk => p2 k (by show (0 : Int) ≤ _; omega) (by omega)⟩)
      · obtain ⟨y, ey⟩ : ∃ y : Nat, x = y + 1 := ⟨x - 1, by omega⟩
        subst ey
        rw [show ((y + 1 : Nat) : Int) - 1 = (y : Int) by omega]
        have hsy := hV.s (y : Int) (by omega) (by omega)
        have hms := mCn_s N h y
        have hcy := mCn_b N h y
        have hz1 : mS N (y : Int) 0 = h → zb (mS N (y : Int) 0 = h) = 1 := fun e => (zbT e).symm
        have hz0 : mS N (y : Int) 0 ≠ h → zb (mS N (y : Int) 0 = h) = 0 := fun e => (zbF e).symm
        refine zF_aload_n 56 dX12_roster_55 rfl rfl ?_
        refine zF_getR 59 dX12_roster_56 rfl gX12_15 hE2.k0 hE2.l0 (hE2.f 7 6 10 (by decide)).1 ?_
        refine zF_iload 61 dX12_roster_59 rfl rfl ?_
        refine zF_aaldA 62 dX12_roster_61 rfl (hE2.f 7 6 10 (by decide)).2.2 (hE2.f 7 6 10 (by decide)).2.1 (by omega) (by omega) (hE2.r7 _ (by omega) (by omega)).1 ?_
        refine zF_iconst 63 dX12_roster_62 rfl ?_
        refine zF_iaload 64 dX12_roster_63 rfl (hE2.r7 _ (by omega) (by omega)).2.2 (hE2.r7 _ (by omega) (by omega)).2.1 (by omega) (by omega) (hE2.c7 _ _ (by omega) (by omega) (by omega) (by omega)) ?_
        refine zF_iload_n 65 dX12_roster_64 rfl rfl ?_
        refine zF_icmp_ne 76 68 dX12_roster_65 rfl rfl (by first | decide | assumption | exact hb _ | exact mSh_rg hb _ _ | exact zb_rg _ | (constructor <;> omega)) (by first | decide | assumption | exact hb _ | exact mSh_rg hb _ _ | exact zb_rg _ | (constructor <;> omega)) (fun c5 => ?_) (fun c5 => ?_)
        · refine zF_iinc 79 (ls' := [(4, zI ((y : Int) + (-1))), (3, zR (zn σ)), (2, zI (mCn N h (y + 1))), (0, zR (E 0)), (1, zI h)]) dX12_roster_76 rfl rfl rfl (by decide) rfl ?_
          refine zF_goto 50 dX12_roster_79 rfl ?_
          exact zF_locs (ls' := [(4, zI (((y : Nat) : Int) - 1)), (3, zR (zn σ)), (2, zI (mCn N h y)), (0, zR (E 0)), (1, zI h)]) ⟨zlI rfl (by first | rfl | omega | (push_cast; omega) | exact congrArg (_ + ·) (zbT (by assumption)) | exact congrArg (_ + ·) (zbF (by assumption)) | exact congrArg (_ + ·) (zbT (by omega)) | exact congrArg (_ + ·) (zbF (by omega)) | exact congrArg (_ + ·) (if_pos (by omega)).symm | exact congrArg (_ + ·) (if_neg (by omega)).symm | exact (if_pos (by omega)).symm | exact (if_neg (by omega)).symm | exact zsub_s (if_pos (by omega)).symm | exact zsub_s0 (if_neg (by omega)).symm | exact zadd0 (if_neg (by omega)).symm | exact zadd0 (zbF (by omega)) | exact (Int.sub_zero _).symm), rfl, zlI rfl (by first | rfl | omega | (push_cast; omega) | exact congrArg (_ + ·) (zbT (by assumption)) | exact congrArg (_ + ·) (zbF (by assumption)) | exact congrArg (_ + ·) (zbT (by omega)) | exact congrArg (_ + ·) (zbF (by omega)) | exact congrArg (_ + ·) (if_pos (by omega)).symm | exact congrArg (_ + ·) (if_neg (by omega)).symm | exact (if_pos (by omega)).symm | exact (if_neg (by omega)).symm | exact zsub_s (if_pos (by omega)).symm | exact zsub_s0 (if_neg (by omega)).symm | exact zadd0 (if_neg (by omega)).symm | exact zadd0 (zbF (by omega)) | exact (Int.sub_zero _).symm), rfl, rfl, trivial⟩ (ih50 y _ (by omega) (⟨by omega, g2, z2, k2, ro_skip (by omega) p2⟩))
        · refine zF_aload_n 69 dX12_roster_68 rfl rfl ?_
          refine zF_iinc 72 (ls' := [(2, zI ((mCn N h (y + 1)) + (-1))), (4, zI (y : Int)), (3, zR (zn σ)), (0, zR (E 0)), (1, zI h)]) dX12_roster_69 rfl rfl rfl (by decide) rfl ?_
          refine zF_iload_n 73 dX12_roster_72 rfl rfl ?_
          refine zF_iload 75 dX12_roster_73 rfl rfl ?_
          refine zF_iastore 76 dX12_roster_75 rfl k2 (by omega) (by omega) (by omega) ?_
          refine zF_iinc 79 (ls' := [(4, zI ((y : Int) + (-1))), (2, zI ((mCn N h (y + 1)) + (-1))), (3, zR (zn σ)), (0, zR (E 0)), (1, zI h)]) dX12_roster_76 rfl rfl rfl (by decide) rfl ?_
          refine zF_goto 50 dX12_roster_79 rfl ?_
          exact zF_locs (ls' := [(4, zI (((y : Nat) : Int) - 1)), (3, zR (zn σ)), (2, zI (mCn N h y)), (0, zR (E 0)), (1, zI h)]) ⟨zlI rfl (by first | rfl | omega | (push_cast; omega) | exact congrArg (_ + ·) (zbT (by assumption)) | exact congrArg (_ + ·) (zbF (by assumption)) | exact congrArg (_ + ·) (zbT (by omega)) | exact congrArg (_ + ·) (zbF (by omega)) | exact congrArg (_ + ·) (if_pos (by omega)).symm | exact congrArg (_ + ·) (if_neg (by omega)).symm | exact (if_pos (by omega)).symm | exact (if_neg (by omega)).symm | exact zsub_s (if_pos (by omega)).symm | exact zsub_s0 (if_neg (by omega)).symm | exact zadd0 (if_neg (by omega)).symm | exact zadd0 (zbF (by omega)) | exact (Int.sub_zero _).symm), rfl, zlI rfl (by first | rfl | omega | (push_cast; omega) | exact congrArg (_ + ·) (zbT (by assumption)) | exact congrArg (_ + ·) (zbF (by assumption)) | exact congrArg (_ + ·) (zbT (by omega)) | exact congrArg (_ + ·) (zbF (by omega)) | exact congrArg (_ + ·) (if_pos (by omega)).symm | exact congrArg (_ + ·) (if_neg (by omega)).symm | exact (if_pos (by omega)).symm | exact (if_neg (by omega)).symm | exact zsub_s (if_pos (by omega)).symm | exact zsub_s0 (if_neg (by omega)).symm | exact zadd0 (if_neg (by omega)).symm | exact zadd0 (zbF (by omega)) | exact (Int.sub_zero _).symm), rfl, rfl, trivial⟩ (ih50 y _ (by omega) (⟨by omega, zGw_si g2 (Nat.le_refl _), z2, k2, ro_step (by omega) (by omega) p2 (by omega) rfl⟩))
    · exact absurd c3 (by omega)
theorem zt_X12_best {h : Int} (hE : eO N σ E) (hV : mV N) (hW : mW N) (hQ : mC4 N) (h0 : 0 ≤ h) (h1 : h < N 0) (hz : zn σ + 3 < zbg) : zE G mX12_best (d + 3) [zR (E 0), zI h] σ (fun ro σ1 => ro = .inl (some (zR (zn σ + 1))) ∧ bS N h σ σ1 ∧ pMax N h (lmP N h) (ch0 N h) (zia σ1 (zn σ + 1) ((nn N h : Nat) : Int)) ∧ (0 ≤ zia σ1 (zn σ + 1) ((nn N h : Nat) : Int) → pLx N h (lmP N h) (ch0 N h) (fun k => zia σ1 (zn σ + 1) k))) := by
  refine zE_of rfl (by simp [zcat]) (Nat.le_of_ble_eq_true rfl) ?_
  show zF G mX12_best (d + 3) 0 [(0, zR (E 0)), (1, zI h)] [] σ _
  have hb := hV.b
  have hn := hV.n
  have hnn := nn_eq hQ h
  have rwn := rW_b (F := N 2) (by omega) (by omega) (ch0 N h) hnn.2
  have l0 := hE.l0
  refine zF_aload_n 1 dX12_best_0 rfl rfl ?_
  refine zF_iload_n 2 dX12_best_1 rfl rfl ?_
  refine zF_callVnn 5 (d2 := (d + 2)) (as := [zI h]) dX12_best_2 rfl kX12_103 iX12_roster (ci := 12) rfl eX12_roster (Nat.le_refl _) hE.k0 hE.l0 rfl rfl (Nat.le_of_ble_eq_true rfl) (by exact (⟨zwR (show (E 0) < zn σ from by first | omega | (rw [zn_nw]; omega) | (rw [zn_si, zn_nw]; omega)), trivial, trivial⟩ : _ ∧ _ ∧ True)) (by exact trivial) (zE.mono (zt_X12_roster hE hV hQ (by constructor <;> omega) (by omega)) fun ro σb1 hh1 => ?_)
  obtain ⟨er1, hro⟩ := hh1
  subst er1
  have ez1 : zn σb1 = zn σ + 1 := hro.2.1.1
  have hE1 := eO.gw hV hE hro.1
  have k2 := hro.2.2.1
  have p2 := hro.2.2.2
  refine zF_astore_n 6 (ls' := [(2, zR (zn σ)), (0, zR (E 0)), (1, zI h)]) dX12_best_5 rfl (by decide) rfl ?_
  refine zF_iconst 7 dX12_best_6 rfl ?_
  refine zF_istore_n 8 (ls' := [(3, zI 1), (2, zR (zn σ)), (0, zR (E 0)), (1, zI h)]) dX12_best_7 rfl (by decide) rfl ?_
  refine zF_aload_n 9 dX12_best_8 rfl rfl ?_
  refine zF_astore 11 (ls' := [(4, zR (zn σ)), (3, zI 1), (2, zR (zn σ)), (0, zR (E 0)), (1, zI h)]) dX12_best_9 rfl (by decide) rfl ?_
  refine zF_aload 13 dX12_best_11 rfl rfl ?_
  refine zF_alen 14 dX12_best_13 rfl (by decide) (show zkd σb1 (zn σ) = (1, nn N h) from by first | exact k2 | (rw [zkd_nw, if_neg (by omega)]; exact k2) | (rw [zkd_si, zkd_nw, if_neg (by omega)]; exact k2)) (show (zn σ) < zn σb1 from by first | omega | (rw [zn_nw]; omega) | (rw [zn_si, zn_nw]; omega)) ?_
  refine zF_istore 16 (ls' := [(5, zI (((nn N h) : Nat) : Int)), (4, zR (zn σ)), (3, zI 1), (2, zR (zn σ)), (0, zR (E 0)), (1, zI h)]) dX12_best_14 rfl (by decide) rfl ?_
  refine zF_iconst 17 dX12_best_16 rfl ?_
  refine zF_istore 19 (ls' := [(6, zI 0), (5, zI (((nn N h) : Nat) : Int)), (4, zR (zn σ)), (3, zI 1), (2, zR (zn σ)), (0, zR (E 0)), (1, zI h)]) dX12_best_17 rfl (by decide) rfl ?_
  refine zF_locs (ls' := (fun (i : Nat) => [(6, zI (i : Int)), (5, zI (((nn N h) : Nat) : Int)), (4, zR (zn σ)), (3, zI (rW (N 2) (ch0 N h) i)), (2, zR (zn σ)), (0, zR (E 0)), (1, zI h)]) 0) ⟨zlI rfl (by first | rfl | omega | (push_cast; omega) | exact congrArg (_ + ·) (zbT (by assumption)) | exact congrArg (_ + ·) (zbF (by assumption)) | exact congrArg (_ + ·) (zbT (by omega)) | exact congrArg (_ + ·) (zbF (by omega)) | exact congrArg (_ + ·) (if_pos (by omega)).symm | exact congrArg (_ + ·) (if_neg (by omega)).symm | exact (if_pos (by omega)).symm | exact (if_neg (by omega)).symm | exact zsub_s (if_pos (by omega)).symm | exact zsub_s0 (if_neg (by omega)).symm | exact zadd0 (if_neg (by omega)).symm | exact zadd0 (zbF (by omega)) | exact (Int.sub_zero _).symm), rfl, rfl, zlI rfl (by first | rfl | omega | (push_cast; omega) | exact congrArg (_ + ·) (zbT (by assumption)) | exact congrArg (_ + ·) (zbF (by assumption)) | exact congrArg (_ + ·) (zbT (by omega)) | exact congrArg (_ + ·) (zbF (by omega)) | exact congrArg (_ + ·) (if_pos (by omega)).symm | exact congrArg (_ + ·) (if_neg (by omega)).symm | exact (if_pos (by omega)).symm | exact (if_neg (by omega)).symm | exact zsub_s (if_pos (by omega)).symm | exact zsub_s0 (if_neg (by omega)).symm | exact zadd0 (if_neg (by omega)).symm | exact zadd0 (zbF (by omega)) | exact (Int.sub_zero _).symm), rfl, rfl, rfl, trivial⟩ ?_
  refine zF_loop (n := (nn N h)) (fun (i : Nat) => [(6, zI (i : Int)), (5, zI (((nn N h) : Nat) : Int)), (4, zR (zn σ)), (3, zI (rW (N 2) (ch0 N h) i)), (2, zR (zn σ)), (0, zR (E 0)), (1, zI h)]) (fun _ => σb1) (fun i hi ih19 => ?_) ?_
  · show zF G mX12_best (d + 3) 19 [(6, zI (i : Int)), (5, zI (((nn N h) : Nat) : Int)), (4, zR (zn σ)), (3, zI (rW (N 2) (ch0 N h) i)), (2, zR (zn σ)), (0, zR (E 0)), (1, zI h)] [] σb1 _
    have rki := rk_b hV (h := h) (k := (i : Int)) (by omega) (by omega)
    have rws := rW_s hV (h := h) (k := i) hi
    have hsr := hV.s (rk N h (i : Int)) rki.1 (by omega)
    refine zF_iload 21 dX12_best_19 rfl rfl ?_
    refine zF_iload 23 dX12_best_21 rfl rfl ?_
    refine zF_icmp_ge 66 26 dX12_best_23 rfl rfl (by first | decide | assumption | exact hb _ | exact mSh_rg hb _ _ | exact zb_rg _ | (constructor <;> omega)) (by first | decide | assumption | exact hb _ | exact mSh_rg hb _ _ | exact zb_rg _ | (constructor <;> omega)) (fun c1 => ?_) (fun c1 => ?_)
    · exact absurd c1 (by omega)
    · refine zF_aload 28 dX12_best_26 rfl rfl ?_
      refine zF_iload 30 dX12_best_28 rfl rfl ?_
      refine zF_iaload 31 dX12_best_30 rfl (show zkd σb1 (zn σ) = (1, nn N h) from by first | exact k2 | (rw [zkd_nw, if_neg (by omega)]; exact k2) | (rw [zkd_si, zkd_nw, if_neg (by omega)]; exact k2)) (show (zn σ) < zn σb1 from by first | omega | (rw [zn_nw]; omega) | (rw [zn_si, zn_nw]; omega)) (by omega) (by omega) (p2 _ (by omega)) ?_
      refine zF_istore 33 (ls' := [(7, zI (rk N h (i : Int))), (6, zI (i : Int)), (5, zI (((nn N h) : Nat) : Int)), (4, zR (zn σ)), (3, zI (rW (N 2) (ch0 N h) i)), (2, zR (zn σ)), (0, zR (E 0)), (1, zI h)]) dX12_best_31 rfl (by decide) rfl ?_
      refine zF_iload_n 34 dX12_best_33 rfl rfl ?_
      refine zF_aload_n 35 dX12_best_34 rfl rfl ?_
      refine zF_getR 38 dX12_best_35 rfl gX12_15 hE1.k0 hE1.l0 (hE1.f 7 6 10 (by decide)).1 ?_
      refine zF_iload 40 dX12_best_38 rfl rfl ?_
      refine zF_aaldA 41 dX12_best_40 rfl (hE1.f 7 6 10 (by decide)).2.2 (hE1.f 7 6 10 (by decide)).2.1 (by omega) (by omega) (hE1.r7 _ (by omega) (by omega)).1 ?_
      refine zF_bipush 43 dX12_best_41 rfl (by decide) ?_
      refine zF_iaload 44 dX12_best_43 rfl (hE1.r7 _ (by omega) (by omega)).2.2 (hE1.r7 _ (by omega) (by omega)).2.1 (by omega) (by omega) (hE1.c7 _ _ (by omega) (by omega) (by omega) (by omega)) ?_
      refine zF_iconst 45 dX12_best_44 rfl ?_
      refine zF_icmp_ne 52 48 dX12_best_45 rfl rfl (by first | decide | assumption | exact hb _ | exact mSh_rg hb _ _ | exact zb_rg _ | (constructor <;> omega)) (by first | decide | assumption | exact hb _ | exact mSh_rg hb _ _ | exact zb_rg _ | (constructor <;> omega)) (fun c2 => ?_) (fun c2 => ?_)
      · refine zF_aload_n 53 dX12_best_52 rfl rfl ?_
        refine zF_getI 56 dX12_best_53 rfl gX12_42 (by decide) (by decide) hE1.k0 hE1.l0 hE1.i2 ?_
        refine zF_iconst 57 dX12_best_56 rfl ?_
        refine zF_iadd 58 dX12_best_57 rfl ?_
        refine zF_imul 59 dX12_best_58 rfl ?_
        refine zF_istore_n 60 (ls' := [(3, zI ((rW (N 2) (ch0 N h) i) * ((N 2) + 1))), (7, zI (rk N h (i : Int))), (6, zI (i : Int)), (5, zI (((nn N h) : Nat) : Int)), (4, zR (zn σ)), (2, zR (zn σ)), (0, zR (E 0)), (1, zI h)]) dX12_best_59 rfl (by decide) rfl ?_
        refine zF_iinc 63 (ls' := [(6, zI ((i : Int) + 1)), (3, zI ((rW (N 2) (ch0 N h) i) * ((N 2) + 1))), (7, zI (rk N h (i : Int))), (5, zI (((nn N h) : Nat) : Int)), (4, zR (zn σ)), (2, zR (zn σ)), (0, zR (E 0)), (1, zI h)]) dX12_best_60 rfl rfl rfl (by decide) rfl ?_
        refine zF_goto 19 dX12_best_63 rfl ?_
        exact zF_locs (ls' := [(6, zI ((i + 1 : Nat) : Int)), (5, zI (((nn N h) : Nat) : Int)), (4, zR (zn σ)), (3, zI (rW (N 2) (ch0 N h) (i + 1))), (2, zR (zn σ)), (0, zR (E 0)), (1, zI h)]) ⟨zlI rfl (by first | rfl | omega | (push_cast; omega) | exact congrArg (_ + ·) (zbT (by assumption)) | exact congrArg (_ + ·) (zbF (by assumption)) | exact congrArg (_ + ·) (zbT (by omega)) | exact congrArg (_ + ·) (zbF (by omega)) | exact congrArg (_ + ·) (if_pos (by omega)).symm | exact congrArg (_ + ·) (if_neg (by omega)).symm | exact (if_pos (by omega)).symm | exact (if_neg (by omega)).symm | exact zsub_s (if_pos (by omega)).symm | exact zsub_s0 (if_neg (by omega)).symm | exact zadd0 (if_neg (by omega)).symm | exact zadd0 (zbF (by omega)) | exact (Int.sub_zero _).symm), rfl, rfl, zlI rfl (by first | rfl | omega | (push_cast; omega) | exact congrArg (_ + ·) (zbT (by assumption)) | exact congrArg (_ + ·) (zbF (by assumption)) | exact congrArg (_ + ·) (zbT (by omega)) | exact congrArg (_ + ·) (zbF (by omega)) | exact congrArg (_ + ·) (if_pos (by omega)).symm | exact congrArg (_ + ·) (if_neg (by omega)).symm | exact (if_pos (by omega)).symm | exact (if_neg (by omega)).symm | exact zsub_s (if_pos (by omega)).symm | exact zsub_s0 (if_neg (by omega)).symm | exact zadd0 (if_neg (by omega)).symm | exact zadd0 (zbF (by omega)) | exact (Int.sub_zero _).symm), rfl, rfl, rfl, trivial⟩ ih19
      · refine zF_iconst 49 dX12_best_48 rfl ?_
        refine zF_goto 58 dX12_best_49 rfl ?_
        refine zF_imul 59 dX12_best_58 rfl ?_
        refine zF_istore_n 60 (ls' := [(3, zI ((rW (N 2) (ch0 N h) i) * 1)), (7, zI (rk N h (i : Int))), (6, zI (i : Int)), (5, zI (((nn N h) : Nat) : Int)), (4, zR (zn σ)), (2, zR (zn σ)), (0, zR (E 0)), (1, zI h)]) dX12_best_59 rfl (by decide) rfl ?_
        refine zF_iinc 63 (ls' := [(6, zI ((i : Int) + 1)), (3, zI ((rW (N 2) (ch0 N h) i) * 1)), (7, zI (rk N h (i : Int))), (5, zI (((nn N h) : Nat) : Int)), (4, zR (zn σ)), (2, zR (zn σ)), (0, zR (E 0)), (1, zI h)]) dX12_best_60 rfl rfl rfl (by decide) rfl ?_
        refine zF_goto 19 dX12_best_63 rfl ?_
        exact zF_locs (ls' := [(6, zI ((i + 1 : Nat) : Int)), (5, zI (((nn N h) : Nat) : Int)), (4, zR (zn σ)), (3, zI (rW (N 2) (ch0 N h) (i + 1))), (2, zR (zn σ)), (0, zR (E 0)), (1, zI h)]) ⟨zlI rfl (by first | rfl | omega | (push_cast; omega) | exact congrArg (_ + ·) (zbT (by assumption)) | exact congrArg (_ + ·) (zbF (by assumption)) | exact congrArg (_ + ·) (zbT (by omega)) | exact congrArg (_ + ·) (zbF (by omega)) | exact congrArg (_ + ·) (if_pos (by omega)).symm | exact congrArg (_ + ·) (if_neg (by omega)).symm | exact (if_pos (by omega)).symm | exact (if_neg (by omega)).symm | exact zsub_s (if_pos (by omega)).symm | exact zsub_s0 (if_neg (by omega)).symm | exact zadd0 (if_neg (by omega)).symm | exact zadd0 (zbF (by omega)) | exact (Int.sub_zero _).symm), rfl, rfl, zlI rfl (by first | rfl | omega | (push_cast; omega) | exact congrArg (_ + ·) (zbT (by assumption)) | exact congrArg (_ + ·) (zbF (by assumption)) | exact congrArg (_ + ·) (zbT (by omega)) | exact congrArg (_ + ·) (zbF (by omega)) | exact congrArg (_ + ·) (if_pos (by omega)).symm | exact congrArg (_ + ·) (if_neg (by omega)).symm | exact (if_pos (by omega)).symm | exact (if_neg (by omega)).symm | exact zsub_s (if_pos (by omega)).symm | exact zsub_s0 (if_neg (by omega)).symm | exact zadd0 (if_neg (by omega)).symm | exact zadd0 (zbF (by omega)) | exact (Int.sub_zero _).symm), rfl, rfl, rfl, trivial⟩ ih19
  · show zF G mX12_best (d + 3) 19 [(6, zI (((nn N h) : Nat) : Int)), (5, zI (((nn N h) : Nat) : Int)), (4, zR (zn σ)), (3, zI (rW (N 2) (ch0 N h) (nn N h))), (2, zR (zn σ)), (0, zR (E 0)), (1, zI h)] [] σb1 _
    refine zF_iload 21 dX12_best_19 rfl rfl ?_
    refine zF_iload 23 dX12_best_21 rfl rfl ?_
    refine zF_icmp_ge 66 26 dX12_best_23 rfl rfl (by first | decide | assumption | exact hb _ | exact mSh_rg hb _ _ | exact zb_rg _ | (constructor <;> omega)) (by first | decide | assumption | exact hb _ | exact mSh_rg hb _ _ | exact zb_rg _ | (constructor <;> omega)) (fun c3 => ?_) (fun c3 => ?_)
    · refine zF_aload_n 67 dX12_best_66 rfl rfl ?_
      refine zF_alen 68 dX12_best_67 rfl (by decide) (show zkd σb1 (zn σ) = (1, nn N h) from by first | exact k2 | (rw [zkd_nw, if_neg (by omega)]; exact k2) | (rw [zkd_si, zkd_nw, if_neg (by omega)]; exact k2)) (show (zn σ) < zn σb1 from by first | omega | (rw [zn_nw]; omega) | (rw [zn_si, zn_nw]; omega)) ?_
      refine zF_iconst 69 dX12_best_68 rfl ?_
      refine zF_iadd 70 dX12_best_69 rfl ?_
      refine zF_newarray 72 dX12_best_70 rfl (Or.inl ⟨rfl, rfl⟩) (zi1 152 rfl rfl) (by omega) (by omega) (by omega) (zwl_q (by exact (⟨trivial, trivial, zwR (show (zn σ) < zn σb1 from by first | omega | (rw [zn_nw]; omega) | (rw [zn_si, zn_nw]; omega)), trivial, zwR (show (zn σ) < zn σb1 from by first | omega | (rw [zn_nw]; omega) | (rw [zn_si, zn_nw]; omega)), zwR (show (E 0) < zn σb1 from by first | omega | (rw [zn_nw]; omega) | (rw [zn_si, zn_nw]; omega)), trivial, trivial⟩ : _ ∧ _ ∧ _ ∧ _ ∧ _ ∧ _ ∧ _ ∧ True))) (zwl_m (by exact trivial)) ?_
      show zF G mX12_best (d + 3) 72 [(6, zI (((nn N h) : Nat) : Int)), (5, zI (((nn N h) : Nat) : Int)), (4, zR (zn σ)), (3, zI (rW (N 2) (ch0 N h) (nn N h))), (2, zR (zn σ)), (0, zR (E 0)), (1, zI h)] [zR (zn σb1)] (znw σb1 1 (nn N h + 1) (nn N h + 1)) _
      show zF G mX12_best (d + 3) 72 [(6, zI (((nn N h) : Nat) : Int)), (5, zI (((nn N h) : Nat) : Int)), (4, zR (zn σ)), (3, zI (rW (N 2) (ch0 N h) (nn N h))), (2, zR (zn σ)), (0, zR (E 0)), (1, zI h)] [zR (zn σb1)] (znw σb1 1 (nn N h + 1) (nn N h + 1)) _
      rw [ez1]
      show zF G mX12_best (d + 3) 72 [(6, zI (((nn N h) : Nat) : Int)), (5, zI (((nn N h) : Nat) : Int)), (4, zR (zn σ)), (3, zI (rW (N 2) (ch0 N h) (nn N h))), (2, zR (zn σ)), (0, zR (E 0)), (1, zI h)] [zR (zn σ + 1)] (znw σb1 1 (nn N h + 1) (nn N h + 1)) _
      refine zF_astore 74 (ls' := [(4, zR (zn σ + 1)), (6, zI (((nn N h) : Nat) : Int)), (5, zI (((nn N h) : Nat) : Int)), (3, zI (rW (N 2) (ch0 N h) (nn N h))), (2, zR (zn σ)), (0, zR (E 0)), (1, zI h)]) dX12_best_72 rfl (by decide) rfl ?_
      refine zF_aload 76 dX12_best_74 rfl rfl ?_
      refine zF_aload_n 77 dX12_best_76 rfl rfl ?_
      refine zF_alen 78 dX12_best_77 rfl (by decide) (show zkd (znw σb1 1 (nn N h + 1) (nn N h + 1)) (zn σ) = (1, nn N h) from by first | exact k2 | (rw [zkd_nw, if_neg (by omega)]; exact k2) | (rw [zkd_si, zkd_nw, if_neg (by omega)]; exact k2)) (show (zn σ) < zn (znw σb1 1 (nn N h + 1) (nn N h + 1)) from by first | omega | (rw [zn_nw]; omega) | (rw [zn_si, zn_nw]; omega)) ?_
      refine zF_iconst 79 dX12_best_78 rfl ?_
      refine zF_iastore 80 dX12_best_79 rfl (show zkd (znw σb1 1 (nn N h + 1) (nn N h + 1)) (zn σ + 1) = (1, nn N h + 1) from by first | (rw [zkd_nw, if_pos (by omega)]) | (rw [zkd_si, zkd_nw, if_pos (by omega)])) (show (zn σ + 1) < zn (znw σb1 1 (nn N h + 1) (nn N h + 1)) from by first | omega | (rw [zn_nw]; omega) | (rw [zn_si, zn_nw]; omega)) (by omega) (by omega) ?_
      refine zF_aload_n 81 dX12_best_80 rfl rfl ?_
      refine zF_alen 82 dX12_best_81 rfl (by decide) (show zkd (zsi (znw σb1 1 (nn N h + 1) (nn N h + 1)) (zn σ + 1) (((nn N h) : Nat) : Int) (-1)) (zn σ) = (1, nn N h) from by first | exact k2 | (rw [zkd_nw, if_neg (by omega)]; exact k2) | (rw [zkd_si, zkd_nw, if_neg (by omega)]; exact k2)) (show (zn σ) < zn (zsi (znw σb1 1 (nn N h + 1) (nn N h + 1)) (zn σ + 1) (((nn N h) : Nat) : Int) (-1)) from by first | omega | (rw [zn_nw]; omega) | (rw [zn_si, zn_nw]; omega)) ?_
      refine zF_newarray 84 dX12_best_82 rfl (Or.inl ⟨rfl, rfl⟩) (zi1 152 rfl rfl) (by omega) (by omega) (by rw [zn_si, zn_nw]; omega) (zwl_q (by exact (⟨zwR (show (zn σ + 1) < zn (zsi (znw σb1 1 (nn N h + 1) (nn N h + 1)) (zn σ + 1) (((nn N h) : Nat) : Int) (-1)) from by first | omega | (rw [zn_nw]; omega) | (rw [zn_si, zn_nw]; omega)), trivial, trivial, trivial, zwR (show (zn σ) < zn (zsi (znw σb1 1 (nn N h + 1) (nn N h + 1)) (zn σ + 1) (((nn N h) : Nat) : Int) (-1)) from by first | omega | (rw [zn_nw]; omega) | (rw [zn_si, zn_nw]; omega)), zwR (show (E 0) < zn (zsi (znw σb1 1 (nn N h + 1) (nn N h + 1)) (zn σ + 1) (((nn N h) : Nat) : Int) (-1)) from by first | omega | (rw [zn_nw]; omega) | (rw [zn_si, zn_nw]; omega)), trivial, trivial⟩ : _ ∧ _ ∧ _ ∧ _ ∧ _ ∧ _ ∧ _ ∧ True))) (zwl_m (by exact trivial)) ?_
      show zF G mX12_best (d + 3) 84 [(4, zR (zn σ + 1)), (6, zI (((nn N h) : Nat) : Int)), (5, zI (((nn N h) : Nat) : Int)), (3, zI (rW (N 2) (ch0 N h) (nn N h))), (2, zR (zn σ)), (0, zR (E 0)), (1, zI h)] [zR (zn (zsi (znw σb1 1 (nn N h + 1) (nn N h + 1)) (zn σ + 1) (((nn N h) : Nat) : Int) (-1)))] (znw (zsi (znw σb1 1 (nn N h + 1) (nn N h + 1)) (zn σ + 1) (((nn N h) : Nat) : Int) (-1)) 1 (nn N h) (nn N h)) _
      show zF G mX12_best (d + 3) 84 [(4, zR (zn σ + 1)), (6, zI (((nn N h) : Nat) : Int)), (5, zI (((nn N h) : Nat) : Int)), (3, zI (rW (N 2) (ch0 N h) (nn N h))), (2, zR (zn σ)), (0, zR (E 0)), (1, zI h)] [zR (zn σb1 + 1)] (znw (zsi (znw σb1 1 (nn N h + 1) (nn N h + 1)) (zn σ + 1) (((nn N h) : Nat) : Int) (-1)) 1 (nn N h) (nn N h)) _
      rw [show zn σb1 + 1 = zn σ + 2 by omega]
      show zF G mX12_best (d + 3) 84 [(4, zR (zn σ + 1)), (6, zI (((nn N h) : Nat) : Int)), (5, zI (((nn N h) : Nat) : Int)), (3, zI (rW (N 2) (ch0 N h) (nn N h))), (2, zR (zn σ)), (0, zR (E 0)), (1, zI h)] [zR (zn σ + 2)] (znw (zsi (znw σb1 1 (nn N h + 1) (nn N h + 1)) (zn σ + 1) (((nn N h) : Nat) : Int) (-1)) 1 (nn N h) (nn N h)) _
      refine zF_astore 86 (ls' := [(5, zR (zn σ + 2)), (4, zR (zn σ + 1)), (6, zI (((nn N h) : Nat) : Int)), (3, zI (rW (N 2) (ch0 N h) (nn N h))), (2, zR (zn σ)), (0, zR (E 0)), (1, zI h)]) dX12_best_84 rfl (by decide) rfl ?_
      refine zF_iconst 87 dX12_best_86 rfl ?_
      refine zF_istore 89 (ls' := [(6, zI 0), (5, zR (zn σ + 2)), (4, zR (zn σ + 1)), (3, zI (rW (N 2) (ch0 N h) (nn N h))), (2, zR (zn σ)), (0, zR (E 0)), (1, zI h)]) dX12_best_87 rfl (by decide) rfl ?_
      refine zF_locs (ls' := [(6, zI ((0 : Nat) : Int)), (5, zR (zn σ + 2)), (4, zR (zn σ + 1)), (3, zI (rW (N 2) (ch0 N h) (nn N h))), (2, zR (zn σ)), (0, zR (E 0)), (1, zI h)]) ⟨zlI rfl (by first | rfl | omega | (push_cast; omega) | exact congrArg (_ + ·) (zbT (by assumption)) | exact congrArg (_ + ·) (zbF (by assumption)) | exact congrArg (_ + ·) (zbT (by omega)) | exact congrArg (_ + ·) (zbF (by omega)) | exact congrArg (_ + ·) (if_pos (by omega)).symm | exact congrArg (_ + ·) (if_neg (by omega)).symm | exact (if_pos (by omega)).symm | exact (if_neg (by omega)).symm | exact zsub_s (if_pos (by omega)).symm | exact zsub_s0 (if_neg (by omega)).symm | exact zadd0 (if_neg (by omega)).symm | exact zadd0 (zbF (by omega)) | exact (Int.sub_zero _).symm), rfl, rfl, rfl, rfl, rfl, rfl, trivial⟩ ?_
      refine zF_while (X := Nat) (fun x => (rW (N 2) (ch0 N h) (nn N h)).toNat - x) (fun x σ3 => (x : Int) ≤ (rW (N 2) (ch0 N h) (nn N h)) ∧ bS N h σ σ3 ∧ cI N h (lmP N h) (ch0 N h) (x : Int) (fun k => zia σ3 (zn σ + 1) k) (zia σ3 (zn σ + 1) ((nn N h : Nat) : Int))) (fun x => [(6, zI ((x : Nat) : Int)), (5, zR (zn σ + 2)), (4, zR (zn σ + 1)), (3, zI (rW (N 2) (ch0 N h) (nn N h))), (2, zR (zn σ)), (0, zR (E 0)), (1, zI h)]) ?_ 0 (znw (zsi (znw σb1 1 (nn N h + 1) (nn N h + 1)) (zn σ + 1) (((nn N h) : Nat) : Int) (-1)) 1 (nn N h) (nn N h)) (⟨by omega, (bS_mk hro).1, by rw [(bS_mk hro).2]; exact cI_0 (by omega)⟩)
      intro x σ3 hI89 ih89
      show zF G mX12_best (d + 3) 89 [(6, zI ((x : Nat) : Int)), (5, zR (zn σ + 2)), (4, zR (zn σ + 1)), (3, zI (rW (N 2) (ch0 N h) (nn N h))), (2, zR (zn σ)), (0, zR (E 0)), (1, zI h)] [] σ3 _
      obtain ⟨hx, b3, i3⟩ := hI89
      have hE3 := eO.gw hV hE b3.1
      refine zF_iload 91 dX12_best_89 rfl rfl ?_
      refine zF_iload_n 92 dX12_best_91 rfl rfl ?_
      refine zF_icmp_ge 257 95 dX12_best_92 rfl rfl (by first | decide | assumption | exact hb _ | exact mSh_rg hb _ _ | exact zb_rg _ | (constructor <;> omega)) (by first | decide | assumption | exact hb _ | exact mSh_rg hb _ _ | exact zb_rg _ | (constructor <;> omega)) (fun c4 => ?_) (fun c4 => ?_)
      · refine zF_aload 259 dX12_best_257 rfl rfl ?_
        exact zF_areturn dX12_best_259 rfl (by have ex : (x : Int) = (rW (N 2) (ch0 N h) (nn N h)) := (by omega); rw [ex] at i3; exact ⟨rfl, b3, cI_end hV hQ h0 (by omega) i3⟩)
      · refine zF_iload 97 dX12_best_95 rfl rfl ?_
        refine zF_istore 99 (ls' := [(7, zI ((x : Nat) : Int)), (6, zI ((x : Nat) : Int)), (5, zR (zn σ + 2)), (4, zR (zn σ + 1)), (3, zI (rW (N 2) (ch0 N h) (nn N h))), (2, zR (zn σ)), (0, zR (E 0)), (1, zI h)]) dX12_best_97 rfl (by decide) rfl ?_
        refine zF_aload_n 100 dX12_best_99 rfl rfl ?_
        refine zF_alen 101 dX12_best_100 rfl (by decide) (show zkd σ3 (zn σ) = (1, nn N h) from b3.2.2.1) (show (zn σ) < zn σ3 from by have := b3.2.1.1; show _ < zn σ3; omega) ?_
        refine zF_iconst 102 dX12_best_101 rfl ?_
        refine zF_isub 103 dX12_best_102 rfl ?_
        refine zF_istore 105 (ls' := [(8, zI ((((nn N h) : Nat) : Int) - 1)), (7, zI ((x : Nat) : Int)), (6, zI ((x : Nat) : Int)), (5, zR (zn σ + 2)), (4, zR (zn σ + 1)), (3, zI (rW (N 2) (ch0 N h) (nn N h))), (2, zR (zn σ)), (0, zR (E 0)), (1, zI h)]) dX12_best_103 rfl (by decide) rfl ?_
        refine zF_locs (ls' := [(8, zI ((((nn N h) : Nat) : Int) - 1)), (7, zI ((x : Nat) : Int)), (6, zI ((x : Nat) : Int)), (5, zR (zn σ + 2)), (4, zR (zn σ + 1)), (3, zI (rW (N 2) (ch0 N h) (nn N h))), (2, zR (zn σ)), (0, zR (E 0)), (1, zI h)]) ⟨rfl, rfl, rfl, rfl, rfl, rfl, rfl, rfl, rfl, trivial⟩ ?_
        refine zF_while (X := Nat × Int) (fun z => z.1) (fun z σ4 => bS N h σ σ4 ∧ (∀ k : Int, zia σ4 (zn σ + 1) k = zia σ3 (zn σ + 1) k) ∧ dgI N h (x : Int) (ch0 N h) z.1 z.2 (fun k => zia σ4 (zn σ + 2) k)) (fun z => [(8, zI (((z.1 : Nat) : Int) - 1)), (7, zI z.2), (6, zI ((x : Nat) : Int)), (5, zR (zn σ + 2)), (4, zR (zn σ + 1)), (3, zI (rW (N 2) (ch0 N h) (nn N h))), (2, zR (zn σ)), (0, zR (E 0)), (1, zI h)]) ?_ ((nn N h), ((x : Nat) : Int)) σ3 (⟨b3, fun k => rfl, dg_0 (by omega) (by omega)⟩)
        intro ⟨y, lf⟩ σ4 hI105 ih105
        show zF G mX12_best (d + 3) 105 [(8, zI (((y : Nat) : Int) - 1)), (7, zI lf), (6, zI ((x : Nat) : Int)), (5, zR (zn σ + 2)), (4, zR (zn σ + 1)), (3, zI (rW (N 2) (ch0 N h) (nn N h))), (2, zR (zn σ)), (0, zR (E 0)), (1, zI h)] [] σ4 _
        obtain ⟨b4, e4, d4⟩ := hI105
        change dgI N h (x : Int) (ch0 N h) y lf (fun k => zia σ4 (zn σ + 2) k) at d4
        have hE4 := eO.gw hV hE b4.1
        have hy := d4.1
        refine zF_iload 107 dX12_best_105 rfl rfl ?_
        refine zF_if_lt 195 110 dX12_best_107 rfl rfl (by first | decide | assumption | exact hb _ | exact mSh_rg hb _ _ | exact zb_rg _ | (constructor <;> omega)) (fun c5 => ?_) (fun c5 => ?_)
        · have ey : y = 0 := by omega
          subst ey
          obtain ⟨pv, pr⟩ := dg_end d4
          have ef : (fun k => zia σ4 (zn σ + 1) k) = (fun k => zia σ3 (zn σ + 1) k) := funext e4
          have i4 : cI N h (lmP N h) (ch0 N h) (x : Int) (fun k => zia σ4 (zn σ + 1) k) (zia σ4 (zn σ + 1) ((nn N h : Nat) : Int)) := by rw [ef, e4]; exact i3
          have irg := cI_rg hV hQ h0 (by omega : h < 4) i4
          have prg := pG_rg hV hQ h0 (by omega : h < 4) (lmP N h) (fun k => zia σ4 (zn σ + 2) k)
          refine zF_aload_n 196 dX12_best_195 rfl rfl ?_
          refine zF_iload_n 197 dX12_best_196 rfl rfl ?_
          refine zF_aload_n 198 dX12_best_197 rfl rfl ?_
          refine zF_aload 200 dX12_best_198 rfl rfl ?_
          refine zF_callVi 203 (d2 := (d + 2)) (as := [zI h, zR (zn σ), zR (zn σ + 2)]) dX12_best_200 rfl kX12_107 iX12_gain (ci := 12) rfl eX12_gain (Nat.le_refl _) hE4.k0 hE4.l0 rfl rfl (Nat.le_of_ble_eq_true rfl) (zt_X12_gain hE4 hV hW hQ h0 h1 b4.2.2.1 (by have := b4.2.1.1; omega) b4.2.2.2.2.2 b4.2.2.2.2.1 (by have := b4.2.1.1; omega) (fun k _ => rfl) (pVc_rg hV pv)) ?_
          refine zF_istore 205 (ls' := [(8, zI (pG N h (lmP N h) (fun k => zia σ4 (zn σ + 2) k))), (7, zI lf), (6, zI ((x : Nat) : Int)), (5, zR (zn σ + 2)), (4, zR (zn σ + 1)), (3, zI (rW (N 2) (ch0 N h) (nn N h))), (2, zR (zn σ)), (0, zR (E 0)), (1, zI h)]) dX12_best_203 rfl (by decide) rfl ?_
          refine zF_iload 207 dX12_best_205 rfl rfl ?_
          refine zF_aload 209 dX12_best_207 rfl rfl ?_
          refine zF_aload_n 210 dX12_best_209 rfl rfl ?_
          refine zF_alen 211 dX12_best_210 rfl (by decide) (show zkd σ4 (zn σ) = (1, nn N h) from b4.2.2.1) (show (zn σ) < zn σ4 from by have := b4.2.1.1; show _ < zn σ4; omega) ?_
          refine zF_iaload 212 dX12_best_211 rfl (show zkd σ4 (zn σ + 1) = (1, nn N h + 1) from b4.2.2.2.1) (show (zn σ + 1) < zn σ4 from by have := b4.2.1.1; show _ < zn σ4; omega) (by omega) (by omega) rfl ?_
          refine zF_icmp_gt 218 215 dX12_best_212 rfl rfl (by first | decide | assumption | exact hb _ | exact mSh_rg hb _ _ | exact zb_rg _ | (constructor <;> omega)) (by first | decide | assumption | exact hb _ | exact mSh_rg hb _ _ | exact zb_rg _ | (constructor <;> omega)) (fun c6 => ?_) (fun c6 => ?_)
          · refine zF_aload 220 dX12_best_218 rfl rfl ?_
            refine zF_aload_n 221 dX12_best_220 rfl rfl ?_
            refine zF_alen 222 dX12_best_221 rfl (by decide) (show zkd σ4 (zn σ) = (1, nn N h) from b4.2.2.1) (show (zn σ) < zn σ4 from by have := b4.2.1.1; show _ < zn σ4; omega) ?_
            refine zF_iload 224 dX12_best_222 rfl rfl ?_
            refine zF_iastore 225 dX12_best_224 rfl (show zkd σ4 (zn σ + 1) = (1, nn N h + 1) from b4.2.2.2.1) (show (zn σ + 1) < zn σ4 from by have := b4.2.1.1; show _ < zn σ4; omega) (by omega) (by omega) ?_
            refine zF_iconst 226 dX12_best_225 rfl ?_
            refine zF_istore 228 (ls' := [(9, zI 0), (8, zI (pG N h (lmP N h) (fun k => zia σ4 (zn σ + 2) k))), (7, zI lf), (6, zI ((x : Nat) : Int)), (5, zR (zn σ + 2)), (4, zR (zn σ + 1)), (3, zI (rW (N 2) (ch0 N h) (nn N h))), (2, zR (zn σ)), (0, zR (E 0)), (1, zI h)]) dX12_best_226 rfl (by decide) rfl ?_
            refine zF_locs (ls' := [(9, zI ((0 : Nat) : Int)), (8, zI (pG N h (lmP N h) (fun k => zia σ4 (zn σ + 2) k))), (7, zI lf), (6, zI ((x : Nat) : Int)), (5, zR (zn σ + 2)), (4, zR (zn σ + 1)), (3, zI (rW (N 2) (ch0 N h) (nn N h))), (2, zR (zn σ)), (0, zR (E 0)), (1, zI h)]) ⟨zlI rfl (by first | rfl | omega | (push_cast; omega) | exact congrArg (_ + ·) (zbT (by assumption)) | exact congrArg (_ + ·) (zbF (by assumption)) | exact congrArg (_ + ·) (zbT (by omega)) | exact congrArg (_ + ·) (zbF (by omega)) | exact congrArg (_ + ·) (if_pos (by omega)).symm | exact congrArg (_ + ·) (if_neg (by omega)).symm | exact (if_pos (by omega)).symm | exact (if_neg (by omega)).symm | exact zsub_s (if_pos (by omega)).symm | exact zsub_s0 (if_neg (by omega)).symm | exact zadd0 (if_neg (by omega)).symm | exact zadd0 (zbF (by omega)) | exact (Int.sub_zero _).symm), rfl, rfl, rfl, rfl, rfl, rfl, rfl, rfl, rfl, trivial⟩ ?_
            refine zF_while (X := Nat) (fun q => nn N h - q) (fun q σ5 => q ≤ nn N h ∧ bS N h σ σ5 ∧ zia σ5 (zn σ + 1) ((nn N h : Nat) : Int) = (pG N h (lmP N h) (fun k => zia σ4 (zn σ + 2) k)) ∧ (∀ k : Int, zia σ5 (zn σ + 2) k = zia σ4 (zn σ + 2) k) ∧ ∀ k : Nat, k < q → zia σ5 (zn σ + 1) k = zia σ4 (zn σ + 2) k) (fun q => [(9, zI ((q : Nat) : Int)), (8, zI (pG N h (lmP N h) (fun k => zia σ4 (zn σ + 2) k))), (7, zI lf), (6, zI ((x : Nat) : Int)), (5, zR (zn σ + 2)), (4, zR (zn σ + 1)), (3, zI (rW (N 2) (ch0 N h) (nn N h))), (2, zR (zn σ)), (0, zR (E 0)), (1, zI h)]) ?_ 0 (zsi σ4 (zn σ + 1) (((nn N h) : Nat) : Int) (pG N h (lmP N h) (fun k => zia σ4 (zn σ + 2) k))) (⟨by omega, b4.si (Or.inl rfl), zsi_same _ _ _ _, fun k => by rw [zia_si, if_neg (by omega)], fun k hk => absurd hk (by omega)⟩)
            intro z σ5 hI228 ih228
            show zF G mX12_best (d + 3) 228 [(9, zI ((z : Nat) : Int)), (8, zI (pG N h (lmP N h) (fun k => zia σ4 (zn σ + 2) k))), (7, zI lf), (6, zI ((x : Nat) : Int)), (5, zR (zn σ + 2)), (4, zR (zn σ + 1)), (3, zI (rW (N 2) (ch0 N h) (nn N h))), (2, zR (zn σ)), (0, zR (E 0)), (1, zI h)] [] σ5 _
            obtain ⟨hq, b5, ev5, t5, c5⟩ := hI228
            have hE5 := eO.gw hV hE b5.1
            refine zF_iload 230 dX12_best_228 rfl rfl ?_
            refine zF_aload_n 231 dX12_best_230 rfl rfl ?_
            refine zF_alen 232 dX12_best_231 rfl (by decide) (show zkd σ5 (zn σ) = (1, nn N h) from b5.2.2.1) (show (zn σ) < zn σ5 from by have := b5.2.1.1; show _ < zn σ5; omega) ?_
            refine zF_icmp_ge 251 235 dX12_best_232 rfl rfl (by first | decide | assumption | exact hb _ | exact mSh_rg hb _ _ | exact zb_rg _ | (constructor <;> omega)) (by first | decide | assumption | exact hb _ | exact mSh_rg hb _ _ | exact zb_rg _ | (constructor <;> omega)) (fun c7 => ?_) (fun c7 => ?_)
            · refine zF_iinc 254 (ls' := [(6, zI (((x : Nat) : Int) + 1)), (9, zI ((z : Nat) : Int)), (8, zI (pG N h (lmP N h) (fun k => zia σ4 (zn σ + 2) k))), (7, zI lf), (5, zR (zn σ + 2)), (4, zR (zn σ + 1)), (3, zI (rW (N 2) (ch0 N h) (nn N h))), (2, zR (zn σ)), (0, zR (E 0)), (1, zI h)]) dX12_best_251 rfl rfl rfl (by decide) rfl ?_
              refine zF_goto 89 dX12_best_254 rfl ?_
              exact zF_locs (ls' := [(6, zI (((x + 1) : Nat) : Int)), (5, zR (zn σ + 2)), (4, zR (zn σ + 1)), (3, zI (rW (N 2) (ch0 N h) (nn N h))), (2, zR (zn σ)), (0, zR (E 0)), (1, zI h)]) ⟨zlI rfl (by first | rfl | omega | (push_cast; omega) | exact congrArg (_ + ·) (zbT (by assumption)) | exact congrArg (_ + ·) (zbF (by assumption)) | exact congrArg (_ + ·) (zbT (by omega)) | exact congrArg (_ + ·) (zbF (by omega)) | exact congrArg (_ + ·) (if_pos (by omega)).symm | exact congrArg (_ + ·) (if_neg (by omega)).symm | exact (if_pos (by omega)).symm | exact (if_neg (by omega)).symm | exact zsub_s (if_pos (by omega)).symm | exact zsub_s0 (if_neg (by omega)).symm | exact zadd0 (if_neg (by omega)).symm | exact zadd0 (zbF (by omega)) | exact (Int.sub_zero _).symm), rfl, rfl, rfl, rfl, rfl, rfl, trivial⟩ (ih89 (x + 1) _ (by omega) (⟨by omega, b5, by rw [ev5]; exact cI_more (by omega) i4 pv pr (by omega) (fun k hk => c5 k (by omega))⟩))
            · refine zF_aload 237 dX12_best_235 rfl rfl ?_
              refine zF_iload 239 dX12_best_237 rfl rfl ?_
              refine zF_aload 241 dX12_best_239 rfl rfl ?_
              refine zF_iload 243 dX12_best_241 rfl rfl ?_
              refine zF_iaload 244 dX12_best_243 rfl (show zkd σ5 (zn σ + 2) = (1, nn N h) from b5.2.2.2.2.1) (show (zn σ + 2) < zn σ5 from by have := b5.2.1.1; show _ < zn σ5; omega) (by omega) (by omega) rfl ?_
              refine zF_iastore 245 dX12_best_244 rfl (show zkd σ5 (zn σ + 1) = (1, nn N h + 1) from b5.2.2.2.1) (show (zn σ + 1) < zn σ5 from by have := b5.2.1.1; show _ < zn σ5; omega) (by omega) (by omega) ?_
              refine zF_iinc 248 (ls' := [(9, zI (((z : Nat) : Int) + 1)), (8, zI (pG N h (lmP N h) (fun k => zia σ4 (zn σ + 2) k))), (7, zI lf), (6, zI ((x : Nat) : Int)), (5, zR (zn σ + 2)), (4, zR (zn σ + 1)), (3, zI (rW (N 2) (ch0 N h) (nn N h))), (2, zR (zn σ)), (0, zR (E 0)), (1, zI h)]) dX12_best_245 rfl rfl rfl (by decide) rfl ?_
              refine zF_goto 228 dX12_best_248 rfl ?_
              exact zF_locs (ls' := [(9, zI (((z + 1) : Nat) : Int)), (8, zI (pG N h (lmP N h) (fun k => zia σ4 (zn σ + 2) k))), (7, zI lf), (6, zI ((x : Nat) : Int)), (5, zR (zn σ + 2)), (4, zR (zn σ + 1)), (3, zI (rW (N 2) (ch0 N h) (nn N h))), (2, zR (zn σ)), (0, zR (E 0)), (1, zI h)]) ⟨zlI rfl (by first | rfl | omega | (push_cast; omega) | exact congrArg (_ + ·) (zbT (by assumption)) | exact congrArg (_ + ·) (zbF (by assumption)) | exact congrArg (_ + ·) (zbT (by omega)) | exact congrArg (_ + ·) (zbF (by omega)) | exact congrArg (_ + ·) (if_pos (by omega)).symm | exact congrArg (_ + ·) (if_neg (by omega)).symm | exact (if_pos (by omega)).symm | exact (if_neg (by omega)).symm | exact zsub_s (if_pos (by omega)).symm | exact zsub_s0 (if_neg (by omega)).symm | exact zadd0 (if_neg (by omega)).symm | exact zadd0 (zbF (by omega)) | exact (Int.sub_zero _).symm), rfl, rfl, rfl, rfl, rfl, rfl, rfl, rfl, rfl, trivial⟩ (ih228 (z + 1) _ (by omega) (⟨by omega, b5.si (Or.inl rfl), by rw [zia_si, if_neg (by omega)]; exact ev5, fun k => by rw [zia_si, if_neg (by omega)]; exact t5 k, fun k hk => by
              rw [zia_si]
              by_cases e : k = z
              · subst e; rw [if_pos ⟨rfl, rfl⟩]; exact t5 _
              · rw [if_neg (by omega)]; exact c5 k (by omega)⟩))
          · refine zF_goto 251 dX12_best_215 rfl ?_
            refine zF_iinc 254 (ls' := [(6, zI (((x : Nat) : Int) + 1)), (8, zI (pG N h (lmP N h) (fun k => zia σ4 (zn σ + 2) k))), (7, zI lf), (5, zR (zn σ + 2)), (4, zR (zn σ + 1)), (3, zI (rW (N 2) (ch0 N h) (nn N h))), (2, zR (zn σ)), (0, zR (E 0)), (1, zI h)]) dX12_best_251 rfl rfl rfl (by decide) rfl ?_
            refine zF_goto 89 dX12_best_254 rfl ?_
            exact zF_locs (ls' := [(6, zI (((x + 1) : Nat) : Int)), (5, zR (zn σ + 2)), (4, zR (zn σ + 1)), (3, zI (rW (N 2) (ch0 N h) (nn N h))), (2, zR (zn σ)), (0, zR (E 0)), (1, zI h)]) ⟨zlI rfl (by first | rfl | omega | (push_cast; omega) | exact congrArg (_ + ·) (zbT (by assumption)) | exact congrArg (_ + ·) (zbF (by assumption)) | exact congrArg (_ + ·) (zbT (by omega)) | exact congrArg (_ + ·) (zbF (by omega)) | exact congrArg (_ + ·) (if_pos (by omega)).symm | exact congrArg (_ + ·) (if_neg (by omega)).symm | exact (if_pos (by omega)).symm | exact (if_neg (by omega)).symm | exact zsub_s (if_pos (by omega)).symm | exact zsub_s0 (if_neg (by omega)).symm | exact zadd0 (if_neg (by omega)).symm | exact zadd0 (zbF (by omega)) | exact (Int.sub_zero _).symm), rfl, rfl, rfl, rfl, rfl, rfl, trivial⟩ (ih89 (x + 1) _ (by omega) (⟨by omega, b4, cI_less (best' := fun _ => 0) (by omega) i4 pv pr (by omega)⟩))
        · obtain ⟨u, eu⟩ : ∃ u : Nat, y = u + 1 := ⟨y - 1, by omega⟩
          subst eu
          rw [show ((u + 1 : Nat) : Int) - 1 = (u : Int) by omega]
          have hu := d4.1
          have hlf := d4.2.1
          have hlf1 := d4.2.2.1
          have rwu := rW_b (F := N 2) (by omega) (by omega) (ch0 N h) (n := u + 1) (by omega)
          have rku := rk_b hV (h := h) (k := (u : Int)) (by omega) (by omega)
          have hco := ch0_o2 hV (h := h) (k := u) (by omega)
          have hsr := hV.s (rk N h (u : Int)) rku.1 (by omega)
          refine zF_aload_n 111 dX12_best_110 rfl rfl ?_
          refine zF_getR 114 dX12_best_111 rfl gX12_15 hE4.k0 hE4.l0 (hE4.f 7 6 10 (by decide)).1 ?_
          refine zF_aload_n 115 dX12_best_114 rfl rfl ?_
          refine zF_iload 117 dX12_best_115 rfl rfl ?_
          refine zF_iaload 118 dX12_best_117 rfl (show zkd σ4 (zn σ) = (1, nn N h) from b4.2.2.1) (show (zn σ) < zn σ4 from by have := b4.2.1.1; show _ < zn σ4; omega) (by omega) (by omega) (b4.2.2.2.2.2 _ (by omega)) ?_
          refine zF_aaldA 119 dX12_best_118 rfl (hE4.f 7 6 10 (by decide)).2.2 (hE4.f 7 6 10 (by decide)).2.1 (by omega) (by omega) (hE4.r7 _ (by omega) (by omega)).1 ?_
          refine zF_bipush 121 dX12_best_119 rfl (by decide) ?_
          refine zF_iaload 122 dX12_best_121 rfl (hE4.r7 _ (by omega) (by omega)).2.2 (hE4.r7 _ (by omega) (by omega)).2.1 (by omega) (by omega) (hE4.c7 _ _ (by omega) (by omega) (by omega) (by omega)) ?_
          refine zF_iconst 123 dX12_best_122 rfl ?_
          refine zF_icmp_ne 130 126 dX12_best_123 rfl rfl (by first | decide | assumption | exact hb _ | exact mSh_rg hb _ _ | exact zb_rg _ | (constructor <;> omega)) (by first | decide | assumption | exact hb _ | exact mSh_rg hb _ _ | exact zb_rg _ | (constructor <;> omega)) (fun c8 => ?_) (fun c8 => ?_)
          · refine zF_iconst 131 dX12_best_130 rfl ?_
            refine zF_istore 133 (ls' := [(9, zI 0), (8, zI (u : Int)), (7, zI lf), (6, zI ((x : Nat) : Int)), (5, zR (zn σ + 2)), (4, zR (zn σ + 1)), (3, zI (rW (N 2) (ch0 N h) (nn N h))), (2, zR (zn σ)), (0, zR (E 0)), (1, zI h)]) dX12_best_131 rfl (by decide) rfl ?_
            refine zF_aload 135 dX12_best_133 rfl rfl ?_
            refine zF_iload 137 dX12_best_135 rfl rfl ?_
            refine zF_iload 139 dX12_best_137 rfl rfl ?_
            refine zF_if_eq 156 142 dX12_best_139 rfl rfl (by first | decide | assumption | exact hb _ | exact mSh_rg hb _ _ | exact zb_rg _ | (constructor <;> omega)) (fun c9 => ?_) (fun c9 => ?_)
            · refine zF_iload 158 dX12_best_156 rfl rfl ?_
              refine zF_aload_n 159 dX12_best_158 rfl rfl ?_
              refine zF_getI 162 dX12_best_159 rfl gX12_42 (by decide) (by decide) hE4.k0 hE4.l0 hE4.i2 ?_
              refine zF_iconst 163 dX12_best_162 rfl ?_
              refine zF_iadd 164 dX12_best_163 rfl ?_
              refine zF_irem 165 dX12_best_164 rfl (by omega) (by omega) (by omega) (by omega) ?_
              refine zF_iconst 166 dX12_best_165 rfl ?_
              refine zF_isub 167 dX12_best_166 rfl ?_
              refine zF_iastore 168 dX12_best_167 rfl (show zkd σ4 (zn σ + 2) = (1, nn N h) from b4.2.2.2.2.1) (show (zn σ + 2) < zn σ4 from by have := b4.2.1.1; show _ < zn σ4; omega) (by omega) (by omega) ?_
              have hE4s : eO N (zsi σ4 (zn σ + 2) (u : Int) ((lf % ((N 2) + 1)) - 1)) E := eO.gw hV hE (b4.si (Or.inr rfl)).1
              refine zF_iload 170 dX12_best_168 rfl rfl ?_
              refine zF_if_eq 178 173 dX12_best_170 rfl rfl (by first | decide | assumption | exact hb _ | exact mSh_rg hb _ _ | exact zb_rg _ | (constructor <;> omega)) (fun c10 => ?_) (fun c10 => ?_)
              · refine zF_iload 180 dX12_best_178 rfl rfl ?_
                refine zF_aload_n 181 dX12_best_180 rfl rfl ?_
                refine zF_getI 184 dX12_best_181 rfl gX12_42 (by decide) (by decide) hE4s.k0 hE4s.l0 hE4s.i2 ?_
                refine zF_iconst 185 dX12_best_184 rfl ?_
                refine zF_iadd 186 dX12_best_185 rfl ?_
                refine zF_idiv 187 dX12_best_186 rfl (by omega) (by omega) (by omega) (by omega) ?_
                refine zF_istore 189 (ls' := [(7, zI (lf / ((N 2) + 1))), (9, zI 0), (8, zI (u : Int)), (6, zI ((x : Nat) : Int)), (5, zR (zn σ + 2)), (4, zR (zn σ + 1)), (3, zI (rW (N 2) (ch0 N h) (nn N h))), (2, zR (zn σ)), (0, zR (E 0)), (1, zI h)]) dX12_best_187 rfl (by decide) rfl ?_
                refine zF_iinc 192 (ls' := [(8, zI ((u : Int) + (-1))), (7, zI (lf / ((N 2) + 1))), (9, zI 0), (6, zI ((x : Nat) : Int)), (5, zR (zn σ + 2)), (4, zR (zn σ + 1)), (3, zI (rW (N 2) (ch0 N h) (nn N h))), (2, zR (zn σ)), (0, zR (E 0)), (1, zI h)]) dX12_best_189 rfl rfl rfl (by decide) rfl ?_
                refine zF_goto 105 dX12_best_192 rfl ?_
                exact zF_locs (ls' := [(8, zI (((u : Nat) : Int) - 1)), (7, zI (lf / ((N 2) + 1))), (6, zI ((x : Nat) : Int)), (5, zR (zn σ + 2)), (4, zR (zn σ + 1)), (3, zI (rW (N 2) (ch0 N h) (nn N h))), (2, zR (zn σ)), (0, zR (E 0)), (1, zI h)]) ⟨zlI rfl (by first | rfl | omega | (push_cast; omega) | exact congrArg (_ + ·) (zbT (by assumption)) | exact congrArg (_ + ·) (zbF (by assumption)) | exact congrArg (_ + ·) (zbT (by omega)) | exact congrArg (_ + ·) (zbF (by omega)) | exact congrArg (_ + ·) (if_pos (by omega)).symm | exact congrArg (_ + ·) (if_neg (by omega)).symm | exact (if_pos (by omega)).symm | exact (if_neg (by omega)).symm | exact zsub_s (if_pos (by omega)).symm | exact zsub_s0 (if_neg (by omega)).symm | exact zadd0 (if_neg (by omega)).symm | exact zadd0 (zbF (by omega)) | exact (Int.sub_zero _).symm), rfl, rfl, rfl, rfl, rfl, rfl, rfl, rfl, trivial⟩ (ih105 (u, (lf / ((N 2) + 1))) _ (by show u < u + 1; omega) (⟨b4.si (Or.inr rfl), fun k => by rw [zia_si, if_neg (by omega)]; exact e4 k, dg_open (by omega) d4 (hco.2 (by omega)) (zsi_same _ _ _ _) (fun k hk => by show zia (zsi σ4 _ _ _) _ _ = zia σ4 _ _; rw [zia_si, if_neg (fun z => hk (by have := z.2; omega))])⟩))
              · exact absurd c10 (by decide)
            · exact absurd c9 (by decide)
          · refine zF_iconst 127 dX12_best_126 rfl ?_
            refine zF_goto 131 dX12_best_127 rfl ?_
            refine zF_istore 133 (ls' := [(9, zI 1), (8, zI (u : Int)), (7, zI lf), (6, zI ((x : Nat) : Int)), (5, zR (zn σ + 2)), (4, zR (zn σ + 1)), (3, zI (rW (N 2) (ch0 N h) (nn N h))), (2, zR (zn σ)), (0, zR (E 0)), (1, zI h)]) dX12_best_131 rfl (by decide) rfl ?_
            refine zF_aload 135 dX12_best_133 rfl rfl ?_
            refine zF_iload 137 dX12_best_135 rfl rfl ?_
            refine zF_iload 139 dX12_best_137 rfl rfl ?_
            refine zF_if_eq 156 142 dX12_best_139 rfl rfl (by first | decide | assumption | exact hb _ | exact mSh_rg hb _ _ | exact zb_rg _ | (constructor <;> omega)) (fun c11 => ?_) (fun c11 => ?_)
            · exact absurd c11 (by decide)
            · refine zF_aload_n 143 dX12_best_142 rfl rfl ?_
              refine zF_getR 146 dX12_best_143 rfl gX12_15 hE4.k0 hE4.l0 (hE4.f 7 6 10 (by decide)).1 ?_
              refine zF_aload_n 147 dX12_best_146 rfl rfl ?_
              refine zF_iload 149 dX12_best_147 rfl rfl ?_
              refine zF_iaload 150 dX12_best_149 rfl (show zkd σ4 (zn σ) = (1, nn N h) from b4.2.2.1) (show (zn σ) < zn σ4 from by have := b4.2.1.1; show _ < zn σ4; omega) (by omega) (by omega) (b4.2.2.2.2.2 _ (by omega)) ?_
              refine zF_aaldA 151 dX12_best_150 rfl (hE4.f 7 6 10 (by decide)).2.2 (hE4.f 7 6 10 (by decide)).2.1 (by omega) (by omega) (hE4.r7 _ (by omega) (by omega)).1 ?_
              refine zF_iconst 152 dX12_best_151 rfl ?_
              refine zF_iaload 153 dX12_best_152 rfl (hE4.r7 _ (by omega) (by omega)).2.2 (hE4.r7 _ (by omega) (by omega)).2.1 (by omega) (by omega) (hE4.c7 _ _ (by omega) (by omega) (by omega) (by omega)) ?_
              refine zF_goto 167 dX12_best_153 rfl ?_
              refine zF_iastore 168 dX12_best_167 rfl (show zkd σ4 (zn σ + 2) = (1, nn N h) from b4.2.2.2.2.1) (show (zn σ + 2) < zn σ4 from by have := b4.2.1.1; show _ < zn σ4; omega) (by omega) (by omega) ?_
              have hE4s : eO N (zsi σ4 (zn σ + 2) (u : Int) (mS N (rk N h (u : Int)) 4)) E := eO.gw hV hE (b4.si (Or.inr rfl)).1
              refine zF_iload 170 dX12_best_168 rfl rfl ?_
              refine zF_if_eq 178 173 dX12_best_170 rfl rfl (by first | decide | assumption | exact hb _ | exact mSh_rg hb _ _ | exact zb_rg _ | (constructor <;> omega)) (fun c12 => ?_) (fun c12 => ?_)
              · exact absurd c12 (by decide)
              · refine zF_iload 175 dX12_best_173 rfl rfl ?_
                refine zF_goto 187 dX12_best_175 rfl ?_
                refine zF_istore 189 (ls' := [(7, zI lf), (9, zI 1), (8, zI (u : Int)), (6, zI ((x : Nat) : Int)), (5, zR (zn σ + 2)), (4, zR (zn σ + 1)), (3, zI (rW (N 2) (ch0 N h) (nn N h))), (2, zR (zn σ)), (0, zR (E 0)), (1, zI h)]) dX12_best_187 rfl (by decide) rfl ?_
                refine zF_iinc 192 (ls' := [(8, zI ((u : Int) + (-1))), (7, zI lf), (9, zI 1), (6, zI ((x : Nat) : Int)), (5, zR (zn σ + 2)), (4, zR (zn σ + 1)), (3, zI (rW (N 2) (ch0 N h) (nn N h))), (2, zR (zn σ)), (0, zR (E 0)), (1, zI h)]) dX12_best_189 rfl rfl rfl (by decide) rfl ?_
                refine zF_goto 105 dX12_best_192 rfl ?_
                exact zF_locs (ls' := [(8, zI (((u : Nat) : Int) - 1)), (7, zI lf), (6, zI ((x : Nat) : Int)), (5, zR (zn σ + 2)), (4, zR (zn σ + 1)), (3, zI (rW (N 2) (ch0 N h) (nn N h))), (2, zR (zn σ)), (0, zR (E 0)), (1, zI h)]) ⟨zlI rfl (by first | rfl | omega | (push_cast; omega) | exact congrArg (_ + ·) (zbT (by assumption)) | exact congrArg (_ + ·) (zbF (by assumption)) | exact congrArg (_ + ·) (zbT (by omega)) | exact congrArg (_ + ·) (zbF (by omega)) | exact congrArg (_ + ·) (if_pos (by omega)).symm | exact congrArg (_ + ·) (if_neg (by omega)).symm | exact (if_pos (by omega)).symm | exact (if_neg (by omega)).symm | exact zsub_s (if_pos (by omega)).symm | exact zsub_s0 (if_neg (by omega)).symm | exact zadd0 (if_neg (by omega)).symm | exact zadd0 (zbF (by omega)) | exact (Int.sub_zero _).symm), rfl, rfl, rfl, rfl, rfl, rfl, rfl, rfl, trivial⟩ (ih105 (u, lf) _ (by show u < u + 1; omega) (⟨b4.si (Or.inr rfl), fun k => by rw [zia_si, if_neg (by omega)]; exact e4 k, dg_held d4 (fun z => hco.1 z (by omega)) ((zsi_same _ _ _ _).trans (ch0_h2 (by omega)).symm) (fun k hk => by show zia (zsi σ4 _ _ _) _ _ = zia σ4 _ _; rw [zia_si, if_neg (fun z => hk (by have := z.2; omega))])⟩))
    · exact absurd c3 (by omega)
end ZE3

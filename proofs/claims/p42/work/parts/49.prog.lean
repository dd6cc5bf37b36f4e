/-! the class: best gain, best film, program -/
section ZC14
variable {G : zG} {d : Nat} {σ : zMem} {B : Nat → Nat} {N : Int → Int}
theorem cMu_0 {σ2 : zMem} (hj : ∀ i j, B i = B j → i = j) (f : zFr (cMu B) σ σ2) (h : zia σ (B 408) 0 = 0) : zia σ2 (B 408) 0 = 0 := (f.2.2.2.2.2 _ _ (fun q => q.elim (fun q => q.2 ⟨rfl, rfl⟩) (fun q => q.elim (fun q => by have := hj _ _ q.1; omega) (fun ⟨i, a, b, e⟩ => by have := hj _ _ e; omega)))).trans h
theorem prN_congr {h : Int} {b c : Int → Int} : ∀ n : Nat, (∀ k : Nat, k < n → b k = c k) → prN N h b n = prN N h c n := fun n => by
  induction n with
  | zero => intro _; rfl
  | succ n ih =>
    intro e
    show mBook (prN N h b n) (rk N h n) (b n) (-1) 0 (mS N (rk N h n) 7) = mBook (prN N h c n) (rk N h n) (c n) (-1) 0 (mS N (rk N h n) 7)
    rw [ih (fun k hk => e k (by omega)), e n (by omega)]
theorem prC_congr {h : Int} {b c : Int → Int} {n : Nat} (e : ∀ k : Nat, k < n → b k = c k) : prC N h b n = prC N h c n := zsum_congr fun k hk => by rw [e k hk]
/-- one place booked in the class's memory -/
theorem prN_cRs {σ1 : zMem} (hV : mV N) {h : Int} {c : Int → Int} {x : Nat} (hc : ∀ k : Nat, k < nn N h → -1 ≤ c k ∧ c k < N 2) (hx : x < nn N h) (hk : cRs (prN N h c x) σ B 200) (e4 : ∀ t, zia σ1 (B 206) t = if t = rk N h x then c x else zia σ (B 206) t) (e5 : ∀ t, zia σ1 (B 207) t = if t = rk N h x then -1 else zia σ (B 207) t) (e6 : ∀ t, zia σ1 (B 208) t = if t = rk N h x then 0 else zia σ (B 208) t)
    (eo : ∀ k, k ≤ 15 → k ≠ 6 → k ≠ 7 → k ≠ 8 → zia σ1 (B (200 + k)) = zia σ (B (200 + k))) : cRs (prN N h c (x + 1)) σ1 B 200 := by
  have hn := hV.n
  have r := rk_b hV (h := h) (k := (x : Int)) (by omega) (by omega)
  refine cRs_book (prN_V hV hc x (by omega)) r.1 (by omega) hk e4 e5 e6 (fun t t0 t1 => ?_) (fun k k1 k2 k3 k4 _ => eo k k1 k2 k3 k4)
  rw [show zia σ1 (B (200 + 9)) = zia σ (B (200 + 9)) from eo 9 (by omega) (by omega) (by omega) (by omega)]
  by_cases z : t = rk N h x
  · rw [if_pos z, z, ← prN_now hV (b := c) hx (k := 7) (by omega) (by omega)]
    exact (hk.2.2.1 _ r.1 (by rw [prN_o hV (by omega) (by omega)]; exact r.2.1)).2.2.2.2
  · rw [if_neg z]
theorem prN_same (hV : mV N) (hX : mX N) {h : Int} {c : Int → Int} {x : Nat} (hc : ∀ k : Nat, k < nn N h → -1 ≤ c k ∧ c k < N 2) (hx : x < nn N h) (hk : cRs (prN N h c x) σ B 200) (e : mS N (rk N h x) 4 = c x ∧ mS N (rk N h x) 6 = 0) : cRs (prN N h c (x + 1)) σ B 200 := by
  have hn := hV.n
  have r := rk_b hV (h := h) (k := (x : Int)) (by omega) (by omega)
  have q := hk.2.2.1 _ r.1 (by rw [prN_o hV (by omega) (by omega)]; exact r.2.1)
  rw [prN_now hV (b := c) hx (k := 4) (by omega) (by omega), prN_now hV (b := c) hx (k := 5) (by omega) (by omega), prN_now hV (b := c) hx (k := 6) (by omega) (by omega)] at q
  have x5 := ((hX _ r.1 r.2.1).1).mpr e.2
  refine prN_cRs hV hc hx hk (fun t => ?_) (fun t => ?_) (fun t => ?_) (fun k _ _ _ _ => rfl)
  · by_cases z : t = rk N h x
    · rw [if_pos z, z, ← e.1]; exact q.2.1
    · rw [if_neg z]
  · by_cases z : t = rk N h x
    · rw [if_pos z, z, ← x5]; exact q.2.2.1
    · rw [if_neg z]
  · by_cases z : t = rk N h x
    · rw [if_pos z, z, ← e.2]; exact q.2.2.2.1
    · rw [if_neg z]
theorem prN_set (hV : mV N) (hj : ∀ i j, B i = B j → i = j) {h s f : Int} {c : Int → Int} {x : Nat} (es : s = rk N h x) (ef : f = c x) (hc : ∀ k : Nat, k < nn N h → -1 ≤ c k ∧ c k < N 2) (hx : x < nn N h) (hk : cRs (prN N h c x) σ B 200) : cRs (prN N h c (x + 1)) (zsi (zsi (zsi σ (B 206) s f) (B 207) s (-1)) (B 208) s 0) B 200 := by
  subst es
  subst ef
  have ne : ∀ {i j : Nat}, i ≠ j → B i ≠ B j := fun h e => h (hj _ _ e)
  refine prN_cRs hV hc hx hk (fun t => ?_) (fun t => ?_) (fun t => ?_) (fun k k1 k2 k3 k4 => (zsi_at (fun e => by have := hj _ _ e; omega) rfl).trans ((zsi_at (fun e => by have := hj _ _ e; omega) rfl).trans (zsi_at (fun e => by have := hj _ _ e; omega) rfl)))
  · rw [zia_si, if_neg (fun q => ne (by decide) q.1), zia_si, if_neg (fun q => ne (by decide) q.1), zia_si]
    by_cases z : t = rk N h x
    · rw [if_pos ⟨rfl, z⟩, if_pos z]
    · rw [if_neg (fun q => z q.2), if_neg z]
  · rw [zia_si, if_neg (fun q => ne (by decide) q.1), zia_si]
    by_cases z : t = rk N h x
    · rw [if_pos ⟨rfl, z⟩, if_pos z]
    · rw [if_neg (fun q => z q.2), if_neg z, zia_si, if_neg (fun q => ne (by decide) q.1)]
  · rw [zia_si]
    by_cases z : t = rk N h x
    · rw [if_pos ⟨rfl, z⟩, if_pos z]
    · rw [if_neg (fun q => z q.2), if_neg z, zia_si, if_neg (fun q => ne (by decide) q.1), zia_si, if_neg (fun q => ne (by decide) q.1)]
theorem PB3_st (hj : ∀ i j, B i = B j → i = j) {s a b c : Int} {σ2 : zMem} (f : zFr (fun y _ => y = B 206 ∨ y = B 207 ∨ y = B 208) σ σ2) : zFr (fun y _ => y = B 206 ∨ y = B 207 ∨ y = B 208) σ (zsi (zsi (zsi σ2 (B 206) s a) (B 207) s b) (B 208) s c) := zFr_si (Or.inr (Or.inr rfl)) (zFr_si (Or.inr (Or.inl rfl)) (zFr_si (Or.inl rfl) f))
theorem PB3_rg {σ2 : zMem} (f : zFr (fun y _ => y = B 206 ∨ y = B 207 ∨ y = B 208) σ σ2) : zFr (zRg 200 216 B) σ σ2 := f.wk fun _ _ q => q.elim (fun q => ⟨206, by decide, by decide, q⟩) (fun q => q.elim (fun q => ⟨207, by decide, by decide, q⟩) (fun q => ⟨208, by decide, by decide, q⟩))
theorem PGG_hi {lo hi : Nat} (hj : ∀ i j, B i = B j → i = j) {σ2 : zMem} (f : zFr (PGG B) σ σ2) : zFr (zRg 400 500 B) σ σ2 := f.wk fun _ _ ⟨⟨i, e, a⟩, _⟩ => ⟨i, by omega, by omega, e⟩
theorem zt_X8_isBookedWhole2 {s f p q : Int} (hB : cM σ B) (s0 : 0 ≤ s) (s1 : s < 10) (hp : zia σ (B 206) s = p) (hq : zia σ (B 208) s = q) (zp : zrg p) (zq : zrg q) (zf : zrg f) : zP1 G mX8_isBookedWhole d [zR (B 200), zI s, zI f] σ (zb (p = f ∧ q = 0)) := by
  refine zE_of rfl (by simp [zcat]) (Nat.le_of_ble_eq_true rfl) ?_
  show zF G mX8_isBookedWhole d 0 [(0, zR (B 200)), (1, zI s), (2, zI f)] [] σ _
  refine zF_aload_n 1 dX8_isBookedWhole_0 rfl rfl ?_
  refine zF_getR 4 dX8_isBookedWhole_1 rfl gX8_21 hB.st.1 hB.st.2.1 (cB_206 hB).1 ?_
  refine zF_iload_n 5 dX8_isBookedWhole_4 rfl rfl ?_
  refine zF_iaload 6 dX8_isBookedWhole_5 rfl (cB_206 hB).2.2 (cB_206 hB).2.1 (by omega) (by omega) hp ?_
  refine zF_iload_n 7 dX8_isBookedWhole_6 rfl rfl ?_
  refine zF_icmp_ne 23 10 dX8_isBookedWhole_7 rfl rfl (by first | decide | assumption) (by first | decide | assumption) (fun c1 => ?_) (fun c1 => ?_)
  · refine zF_iconst 24 dX8_isBookedWhole_23 rfl ?_
    exact zF_zretP dX8_isBookedWhole_24 rfl (by decide) (by first | exact (if_pos (by omega)).symm | exact (if_neg (by omega)).symm)
  · refine zF_aload_n 11 dX8_isBookedWhole_10 rfl rfl ?_
    refine zF_getR 14 dX8_isBookedWhole_11 rfl gX8_27 hB.st.1 hB.st.2.1 (cB_208 hB).1 ?_
    refine zF_iload_n 15 dX8_isBookedWhole_14 rfl rfl ?_
    refine zF_iaload 16 dX8_isBookedWhole_15 rfl (cB_208 hB).2.2 (cB_208 hB).2.1 (by omega) (by omega) hq ?_
    refine zF_if_ne 23 19 dX8_isBookedWhole_16 rfl rfl (by first | decide | assumption) (fun c2 => ?_) (fun c2 => ?_)
    · refine zF_iconst 24 dX8_isBookedWhole_23 rfl ?_
      exact zF_zretP dX8_isBookedWhole_24 rfl (by decide) (by first | exact (if_pos (by omega)).symm | exact (if_neg (by omega)).symm)
    · refine zF_iconst 20 dX8_isBookedWhole_19 rfl ?_
      refine zF_goto 24 dX8_isBookedWhole_20 rfl ?_
      exact zF_zretP dX8_isBookedWhole_24 rfl (by decide) (by first | exact (if_pos (by omega)).symm | exact (if_neg (by omega)).symm)
theorem zt_X5_bookFound {h : Int} {lim c : Int → Int} (hB : cM σ B) (hP : cPr σ B) (hV : mV N) (hX : mX N) (hQ : mC4 N) (v : cPv N h lim c σ B) (hc : ∀ k : Nat, k < nn N h → -1 ≤ c k ∧ c k < N 2) (hs : cRs N σ B 200) : zE G mX5_bookFound (d + 1) [zR (B 400)] σ (fun ro σ1 => ro = .inl (some (zI (prC N h c (nn N h)))) ∧ zFr (fun y _ => y = B 206 ∨ y = B 207 ∨ y = B 208) σ σ1 ∧ cRs (prN N h c (nn N h)) σ1 B 200) := by
  refine zE_of rfl (by simp [zcat]) (Nat.le_of_ble_eq_true rfl) ?_
  show zF G mX5_bookFound (d + 1) 0 [(0, zR (B 400))] [] σ _
  have hn := hV.n
  have hnn := nn_eq hQ h
  have hf0 := nF_eq hV
  refine zF_iconst 1 dX5_bookFound_0 rfl ?_
  refine zF_istore_n 2 (ls' := [(1, zI 0), (0, zR (B 400))]) dX5_bookFound_1 rfl (by decide) rfl ?_
  refine zF_iconst 3 dX5_bookFound_2 rfl ?_
  refine zF_istore_n 4 (ls' := [(2, zI 0), (1, zI 0), (0, zR (B 400))]) dX5_bookFound_3 rfl (by decide) rfl ?_
  refine zF_locs (ls' := [(2, zI ((0 : Nat) : Int)), (1, zI (prC N h c 0)), (0, zR (B 400))]) ⟨zlI rfl (by first | rfl | omega | (push_cast; omega) | exact congrArg (_ + ·) (zbT (by omega)) | exact congrArg (_ + ·) (zbF (by omega)) | exact congrArg (_ + ·) (if_pos (by omega)).symm | exact (Int.add_zero _).symm.trans (congrArg (_ + ·) (zbF (by omega)))), zlI rfl (by first | rfl | omega | (push_cast; omega) | exact congrArg (_ + ·) (zbT (by omega)) | exact congrArg (_ + ·) (zbF (by omega)) | exact congrArg (_ + ·) (if_pos (by omega)).symm | exact (Int.add_zero _).symm.trans (congrArg (_ + ·) (zbF (by omega)))), rfl, trivial⟩ ?_
  refine zF_while (X := Nat) (fun x => nn N h - x) (fun x σ2 => x ≤ nn N h ∧ zFr (fun y _ => y = B 206 ∨ y = B 207 ∨ y = B 208) σ σ2 ∧ cRs (prN N h c x) σ2 B 200) (fun x => [(2, zI ((x : Nat) : Int)), (1, zI (prC N h c x)), (0, zR (B 400))]) ?_ 0 σ (⟨Nat.zero_le _, zFr.rf, hs⟩)
  intro x σ2 hI4 ih4
  show zF G mX5_bookFound (d + 1) 4 [(2, zI ((x : Nat) : Int)), (1, zI (prC N h c x)), (0, zR (B 400))] [] σ2 _
  obtain ⟨hx, fr2, hs2⟩ := hI4
  have hB2 := cM_fr hB fr2
  have hP2 := cPr_fr hP fr2
  have v2 := cPv_fr v fr2 (fun j => ⟨fun q => by rcases q with q | q | q <;> exact absurd (hB.inj _ _ q) (by decide), fun q => by rcases q with q | q | q <;> exact absurd (hB.inj _ _ q) (by decide), fun q => by rcases q with q | q | q <;> exact absurd (hB.inj _ _ q) (by decide), fun q => by rcases q with q | q | q <;> exact absurd (hB.inj _ _ q) (by decide), fun q => by rcases q with q | q | q <;> exact absurd (hB.inj _ _ q) (by decide)⟩)
  have pcb := prC_b N h c x
  refine zF_iload_n 5 dX5_bookFound_4 rfl rfl ?_
  refine zF_aload_n 6 dX5_bookFound_5 rfl rfl ?_
  refine zF_getI 9 dX5_bookFound_6 rfl gX5_63 (by decide) (by decide) hP2.1 hP2.2.1 v2.2.1 ?_
  refine zF_icmp_ge 64 12 dX5_bookFound_9 rfl rfl (by first | decide | assumption | (constructor <;> omega)) (by first | decide | assumption | (constructor <;> omega)) (fun c1 => ?_) (fun c1 => ?_)
  · refine zF_iload_n 65 dX5_bookFound_64 rfl rfl ?_
    exact zF_ireturn dX5_bookFound_65 rfl (⟨congrArg (fun z => Sum.inl (some (zI z))) (by rw [show x = nn N h by omega]), fr2, by rw [← show x = nn N h by omega]; exact hs2⟩)
  · have hx2 : x < nn N h := by omega
    have rb := rk_b hV (h := h) (k := (x : Int)) (by omega) (by omega)
    have qs := hV.s _ rb.1 (by omega)
    have q := hs2.2.2.1 _ rb.1 (by rw [prN_o hV (by omega) (by omega)]; exact rb.2.1)
    have cb := hc x hx2
    have qx := (hX _ rb.1 rb.2.1).1
    refine zF_aload_n 13 dX5_bookFound_12 rfl rfl ?_
    refine zF_getR 16 dX5_bookFound_13 rfl gX5_43 hP2.1 hP2.2.1 hP2.2.2.2.1 ?_
    refine zF_aload_n 17 dX5_bookFound_16 rfl rfl ?_
    refine zF_getR 20 dX5_bookFound_17 rfl gX5_9 hP2.1 hP2.2.1 (cB_405 hP2).1 ?_
    refine zF_iload_n 21 dX5_bookFound_20 rfl rfl ?_
    refine zF_iaload 22 dX5_bookFound_21 rfl (cB_405 hP2).2.2 (cB_405 hP2).2.1 (by omega) (by omega) (v2.2.2.1 x (by omega)) ?_
    refine zF_aload_n 23 dX5_bookFound_22 rfl rfl ?_
    refine zF_getR 26 dX5_bookFound_23 rfl gX5_15 hP2.1 hP2.2.1 (cB_406 hP2).1 ?_
    refine zF_iload_n 27 dX5_bookFound_26 rfl rfl ?_
    refine zF_iaload 28 dX5_bookFound_27 rfl (cB_406 hP2).2.2 (cB_406 hP2).2.1 (by omega) (by omega) (v2.2.2.2.1 x (by omega)) ?_
    refine zF_callVi 31 (d2 := d) (as := [zI (rk N h ((x : Nat) : Int)), zI (c ((x : Nat) : Int))]) dX5_bookFound_28 rfl kX5_76 iX8_isBookedWhole (ci := 8) rfl eX8_isBookedWhole (Nat.le_refl _) hB2.st.1 hB2.st.2.1 rfl rfl (Nat.le_of_ble_eq_true rfl) (zt_X8_isBookedWhole2 hB2 rb.1 (by omega) (q.2.1.trans (prN_now hV hx2 (by omega) (by omega))) (q.2.2.2.1.trans (prN_now hV hx2 (by omega) (by omega))) (by first | decide | assumption | (constructor <;> omega)) (by first | decide | assumption | (constructor <;> omega)) (by first | decide | assumption | (constructor <;> omega))) ?_
    refine zF_ifb_ne 58 34 dX5_bookFound_31 rfl rfl (fun c2 => ?_) (fun c2 => ?_)
    · refine zF_iinc 61 (ls' := [(2, zI (((x : Nat) : Int) + 1)), (1, zI (prC N h c x)), (0, zR (B 400))]) dX5_bookFound_58 rfl rfl rfl (by decide) rfl ?_
      refine zF_goto 4 dX5_bookFound_61 rfl ?_
      exact zF_locs (ls' := [(2, zI (((x + 1) : Nat) : Int)), (1, zI (prC N h c (x + 1))), (0, zR (B 400))]) ⟨zlI rfl (by first | rfl | omega | (push_cast; omega) | exact congrArg (_ + ·) (zbT (by omega)) | exact congrArg (_ + ·) (zbF (by omega)) | exact congrArg (_ + ·) (if_pos (by omega)).symm | exact (Int.add_zero _).symm.trans (congrArg (_ + ·) (zbF (by omega)))), zlI rfl (by first | rfl | omega | (push_cast; omega) | exact congrArg (_ + ·) (zbT (by omega)) | exact congrArg (_ + ·) (zbF (by omega)) | exact congrArg (_ + ·) (if_pos (by omega)).symm | exact (Int.add_zero _).symm.trans (congrArg (_ + ·) (zbF (by omega)))), rfl, trivial⟩ (ih4 (x + 1) _ (by omega) (⟨by omega, fr2, prN_same hV hX hc hx2 hs2 (by assumption)⟩))
    · refine zF_aload_n 35 dX5_bookFound_34 rfl rfl ?_
      refine zF_getR 38 dX5_bookFound_35 rfl gX5_43 hP2.1 hP2.2.1 hP2.2.2.2.1 ?_
      refine zF_aload_n 39 dX5_bookFound_38 rfl rfl ?_
      refine zF_getR 42 dX5_bookFound_39 rfl gX5_9 hP2.1 hP2.2.1 (cB_405 hP2).1 ?_
      refine zF_iload_n 43 dX5_bookFound_42 rfl rfl ?_
      refine zF_iaload 44 dX5_bookFound_43 rfl (cB_405 hP2).2.2 (cB_405 hP2).2.1 (by omega) (by omega) (v2.2.2.1 x (by omega)) ?_
      refine zF_aload_n 45 dX5_bookFound_44 rfl rfl ?_
      refine zF_getR 48 dX5_bookFound_45 rfl gX5_15 hP2.1 hP2.2.1 (cB_406 hP2).1 ?_
      refine zF_iload_n 49 dX5_bookFound_48 rfl rfl ?_
      refine zF_iaload 50 dX5_bookFound_49 rfl (cB_406 hP2).2.2 (cB_406 hP2).2.1 (by omega) (by omega) (v2.2.2.2.1 x (by omega)) ?_
      refine zF_iconst 51 dX5_bookFound_50 rfl ?_
      refine zF_iconst 52 dX5_bookFound_51 rfl ?_
      refine zF_callV 55 (d2 := d) (as := [zI (rk N h ((x : Nat) : Int)), zI (c ((x : Nat) : Int)), zI (-1), zI 0]) dX5_bookFound_52 rfl kX5_82 iX8_setBooking (ci := 8) rfl eX8_setBooking (Nat.le_refl _) hB2.st.1 hB2.st.2.1 rfl rfl (Nat.le_of_ble_eq_true rfl) (zE.mono (zt_X8_setBooking hB2 rb.1 (by omega)) fun ro σx1 hh1 => ?_)
      obtain ⟨er1, es1⟩ := hh1
      subst er1
      subst es1
      refine ⟨rfl, ?_⟩
      refine zF_iinc 58 (ls' := [(1, zI ((prC N h c x) + 1)), (2, zI ((x : Nat) : Int)), (0, zR (B 400))]) dX5_bookFound_55 rfl rfl rfl (by decide) rfl ?_
      refine zF_iinc 61 (ls' := [(2, zI (((x : Nat) : Int) + 1)), (1, zI ((prC N h c x) + 1)), (0, zR (B 400))]) dX5_bookFound_58 rfl rfl rfl (by decide) rfl ?_
      refine zF_goto 4 dX5_bookFound_61 rfl ?_
      exact zF_locs (ls' := [(2, zI (((x + 1) : Nat) : Int)), (1, zI (prC N h c (x + 1))), (0, zR (B 400))]) ⟨zlI rfl (by first | rfl | omega | (push_cast; omega) | exact congrArg (_ + ·) (zbT (by omega)) | exact congrArg (_ + ·) (zbF (by omega)) | exact congrArg (_ + ·) (if_pos (by omega)).symm | exact (Int.add_zero _).symm.trans (congrArg (_ + ·) (zbF (by omega)))), zlI rfl (by first | rfl | omega | (push_cast; omega) | exact congrArg (_ + ·) (zbT (by omega)) | exact congrArg (_ + ·) (zbF (by omega)) | exact congrArg (_ + ·) (if_pos (by omega)).symm | exact (Int.add_zero _).symm.trans (congrArg (_ + ·) (zbF (by omega)))), rfl, trivial⟩ (ih4 (x + 1) _ (by omega) (⟨by omega, PB3_st hB.inj fr2, prN_set hV hB.inj rfl rfl hc hx2 hs2⟩))
theorem zt_X11_bestGain {h : Int} (hG : zGd G) (hO : cO σ B) (hR : cR N σ B) (hV : mV N) (hP : cPr σ B) (hr0 : zia σ (B 408) 0 = 0) (hQ : mQ N) (zh : zrg h) : zE G mX11_bestGain (d + 8) [zR (B 0), zI h] σ (cop (if 0 ≤ h ∧ h < N 0 then 0 else 1) (bG N h (lmP N h)) B σ) := by
  refine zE_of rfl (by simp [zcat]) (Nat.le_of_ble_eq_true rfl) ?_
  show zF G mX11_bestGain (d + 8) 0 [(0, zR (B 0)), (1, zI h)] [] σ _
  have hB := hO.1
  have hb := hV.b
  have hn := hV.n
  refine zF_aload_n 1 dX11_bestGain_0 rfl rfl ?_
  refine zF_iload_n 2 dX11_bestGain_1 rfl rfl ?_
  refine zF_callV 5 (d2 := (d + 7)) (as := [zI h]) dX11_bestGain_2 rfl kX11_181 iX11_checkHouse (ci := 11) rfl eX11_checkHouse (Nat.le_refl _) hO.2.1 hO.2.2.1 rfl rfl (Nat.le_of_ble_eq_true rfl) (zE.mono (zt_X11_checkHouse hG hO hR hV (by first | decide | assumption | exact hb _ | exact mSh_rg hb _ _ | exact zb_rg _ | (constructor <;> omega))) fun ro σx1 hh1 => ?_)
  rcases Decidable.em (0 ≤ h ∧ h < N 0) with kc1 | kc1
  rotate_left
  · rw [if_neg kc1] at hh1; obtain ⟨er1, es1⟩ := hh1; subst er1; subst es1; exact ⟨rfl, by decide, copN (by repeat (first | rw [if_pos (by omega)] | rw [if_neg (by omega)]))⟩
  rw [if_pos kc1] at hh1; obtain ⟨er1, es1⟩ := hh1; subst er1; replace es1 := es1.symm; subst es1; refine ⟨rfl, ?_⟩
  show zF G mX11_bestGain (d + 8) 5 [(0, zR (B 0)), (1, zI h)] [] σ _
  refine zF_aload_n 6 dX11_bestGain_5 rfl rfl ?_
  refine zF_getR 9 dX11_bestGain_6 rfl gX11_52 hO.2.1 hO.2.2.1 hO.2.2.2.2.2.2.2.2.1 ?_
  refine zF_iload_n 10 dX11_bestGain_9 rfl rfl ?_
  refine zF_callV 13 (d2 := (d + 7)) (as := [zI h]) dX11_bestGain_10 rfl kX11_298 iX5_greatestGain (ci := 5) rfl eX5_greatestGain (Nat.le_refl _) hP.1 hP.2.1 rfl rfl (Nat.le_of_ble_eq_true rfl) (zE.mono (zt_X5_greatestGain (h := h) hB hP hR hV hQ.c (by omega) (by omega) hr0) fun ro σg2 hh2 => ?_)
  obtain ⟨g2, er2, fr2, vv2, pm2, gl2, gu2⟩ := hh2
  subst er2
  refine ⟨fr2.1, ?_⟩
  exact zF_ireturn dX11_bestGain_13 rfl (copR (PGG_sc fr2) (by repeat (first | rw [if_pos (by omega)] | rw [if_neg (by omega)])) (bG_eq pm2))
theorem zt_X11_bestFilm {s : Int} (hG : zGd G) (hO : cO σ B) (hR : cR N σ B) (hV : mV N) (hP : cPr σ B) (hr0 : zia σ (B 408) 0 = 0) (hW : mW N) (hQ : mQ N) (zs : zrg s) : zE G mX11_bestFilm (d + 8) [zR (B 0), zI s] σ (cop (if 0 ≤ s ∧ s < N 1 then 0 else 1) (bfV N s) B σ) := by
  refine zE_of rfl (by simp [zcat]) (Nat.le_of_ble_eq_true rfl) ?_
  show zF G mX11_bestFilm (d + 8) 0 [(0, zR (B 0)), (1, zI s)] [] σ _
  have hB := hO.1
  have hb := hV.b
  have hn := hV.n
  refine zF_aload_n 1 dX11_bestFilm_0 rfl rfl ?_
  refine zF_iload_n 2 dX11_bestFilm_1 rfl rfl ?_
  refine zF_callV 5 (d2 := (d + 7)) (as := [zI s]) dX11_bestFilm_2 rfl kX11_203 iX11_checkScreen (ci := 11) rfl eX11_checkScreen (Nat.le_refl _) hO.2.1 hO.2.2.1 rfl rfl (Nat.le_of_ble_eq_true rfl) (zE.mono (zt_X11_checkScreen hG hO hR hV (by first | decide | assumption | exact hb _ | exact mSh_rg hb _ _ | exact zb_rg _ | (constructor <;> omega))) fun ro σx1 hh1 => ?_)
  rcases Decidable.em (0 ≤ s ∧ s < N 1) with kc1 | kc1
  rotate_left
  · rw [if_neg kc1] at hh1; obtain ⟨er1, es1⟩ := hh1; subst er1; subst es1; exact ⟨rfl, by decide, copN (by repeat (first | rw [if_pos (by omega)] | rw [if_neg (by omega)]))⟩
  rw [if_pos kc1] at hh1; obtain ⟨er1, es1⟩ := hh1; subst er1; replace es1 := es1.symm; subst es1; refine ⟨rfl, ?_⟩
  show zF G mX11_bestFilm (d + 8) 5 [(0, zR (B 0)), (1, zI s)] [] σ _
  have s01 : 0 ≤ s ∧ s < N 1 := by omega
  have hs := hV.s s s01.1 (by omega)
  have hw := hW s s01.1 s01.2
  have hsn := nS_eq hV
  have hnn := nn_eq hQ.c (mS N s 0)
  obtain ⟨sn, hsn2⟩ : ∃ sn : Nat, s = (sn : Int) := ⟨s.toNat, by omega⟩
  have rs : rk N (mS N s 0) (mCn N (mS N s 0) sn) = s := (rk_inj N (mS N s 0) (by omega) (by rw [← hsn2])).trans hsn2.symm
  have cl := mCn_lt N (mS N s 0) (a := sn) (b := nS N) (by omega) (by rw [← hsn2])
  have cb := mCn_b N (mS N s 0) sn
  obtain ⟨x0, hx1⟩ : ∃ x0 : Nat, mCn N (mS N s 0) sn = (x0 : Int) := ⟨(mCn N (mS N s 0) sn).toNat, by omega⟩
  have hx0 : x0 < nn N (mS N s 0) := by omega
  have hrx : rk N (mS N s 0) x0 = s := by rw [← hx1]; exact rs
  refine zF_aload_n 6 dX11_bestFilm_5 rfl rfl ?_
  refine zF_getR 9 dX11_bestFilm_6 rfl gX11_52 hO.2.1 hO.2.2.1 hO.2.2.2.2.2.2.2.2.1 ?_
  refine zF_aload_n 10 dX11_bestFilm_9 rfl rfl ?_
  refine zF_getR 13 dX11_bestFilm_10 rfl gX11_27 hO.2.1 hO.2.2.1 hO.2.2.2.2.2.1 ?_
  refine zF_getR 16 dX11_bestFilm_13 rfl gX11_206 hB.ch.1 hB.ch.2.1 (cB_104 hB).1 ?_
  refine zF_iload_n 17 dX11_bestFilm_16 rfl rfl ?_
  refine zF_iaload 18 dX11_bestFilm_17 rfl (cB_104 hB).2.2 (cB_104 hB).2.1 (by omega) (by omega) (hR.c.2.2.1 _ (by omega) (by omega)).1 ?_
  refine zF_callV 21 (d2 := (d + 7)) (as := [zI (mS N s 0)]) dX11_bestFilm_18 rfl kX11_301 iX5_findBest (ci := 5) rfl eX5_findBest (Nat.le_refl _) hP.1 hP.2.1 rfl rfl (Nat.le_of_ble_eq_true rfl) (zE.mono (zt_X5_findBest (h := mS N s 0) hB hP hR hV hQ.c hs.1 (by omega) hr0) fun ro σg2 hh2 => ?_)
  obtain ⟨er2, fr2, c2x, vv2, px2, ⟨gx2, pm2⟩, cr2⟩ := hh2
  subst er2
  refine ⟨fr2.1, ?_⟩
  have hB2 := cM_fr hB fr2
  have hP2 := cPr_fr hP fr2
  have hR2 := PGG_cR hB fr2 hR
  have hO2 := cO_fr hO fr2
  refine zF_aload_n 22 dX11_bestFilm_21 rfl rfl ?_
  refine zF_getR 25 dX11_bestFilm_22 rfl gX11_52 hO2.2.1 hO2.2.2.1 hO2.2.2.2.2.2.2.2.2.1 ?_
  refine zF_iload_n 26 dX11_bestFilm_25 rfl rfl ?_
  refine zF_callVi 29 (d2 := (d + 7)) (as := [zI s]) dX11_bestFilm_26 rfl kX11_304 iX5_filmFor (ci := 5) rfl eX5_filmFor (Nat.le_refl _) hP2.1 hP2.2.1 rfl rfl (Nat.le_of_ble_eq_true rfl) (zt_X5_filmFor (x0 := x0) hB2 hP2 hR2 hV hQ.c hs.1 (by omega) vv2 cr2 hx0 hrx (by first | decide | assumption | exact hb _ | exact mSh_rg hb _ _ | exact zb_rg _ | (constructor <;> omega))) ?_
  exact zF_ireturn dX11_bestFilm_29 rfl (copR (PGG_sc fr2) (by repeat (first | rw [if_pos (by omega)] | rw [if_neg (by omega)])) (by rw [bF_eq (by omega) px2 x0 hx0]; unfold bfV; rw [show s.toNat = sn by omega, hx1]))
theorem zt_X11_program {N : Int → Int} {H : Int → Int → Int} {u T : Int} {h : Int} (hG : zGd G) (hO : cO σ B) (hH : cHs σ B) (hc : cST (N, H, u) σ B) (g : gS T (N, H, u)) (hP : cPr σ B) (hr0 : zia σ (B 408) 0 = 0) (zh : zrg h) : zE G mX11_program (d + 9) [zR (B 0), zI h] σ (copM (if 0 ≤ h ∧ h < N 0 then 0 else 1) (oPrV N h) (oPrS (N, H, u) h) B σ) := by
  refine zE_of rfl (by simp [zcat]) (Nat.le_of_ble_eq_true rfl) ?_
  show zF G mX11_program (d + 9) 0 [(0, zR (B 0)), (1, zI h)] [] σ _
  have hB := hO.1
  have gn : gN T N := g.n
  obtain ⟨hR, nx, hr⟩ := hc
  have hR : cR N σ B := hR
  have hr : cHr H u nx σ B := hr
  have hV : mV N := g.n.v
  have hW : mW N := g.n.w
  have hX : mX N := g.n.x
  have hQ : mQ N := g.n.q
  have hb := hV.b
  have hn := hV.n
  refine zF_aload_n 1 dX11_program_0 rfl rfl ?_
  refine zF_iload_n 2 dX11_program_1 rfl rfl ?_
  refine zF_callV 5 (d2 := (d + 8)) (as := [zI h]) dX11_program_2 rfl kX11_181 iX11_checkHouse (ci := 11) rfl eX11_checkHouse (Nat.le_refl _) hO.2.1 hO.2.2.1 rfl rfl (Nat.le_of_ble_eq_true rfl) (zE.mono (zt_X11_checkHouse hG hO hR hV (by first | decide | assumption | exact hb _ | exact mSh_rg hb _ _ | exact zb_rg _ | (constructor <;> omega))) fun ro σx1 hh1 => ?_)
  rcases Decidable.em (0 ≤ h ∧ h < N 0) with kc1 | kc1
  rotate_left
  · rw [if_neg kc1] at hh1; obtain ⟨er1, es1⟩ := hh1; subst er1; subst es1; exact ⟨rfl, by decide, copMN (by repeat (first | rw [if_pos (by omega)] | rw [if_neg (by omega)]))⟩
  rw [if_pos kc1] at hh1; obtain ⟨er1, es1⟩ := hh1; subst er1; replace es1 := es1.symm; subst es1; refine ⟨rfl, ?_⟩
  show zF G mX11_program (d + 9) 5 [(0, zR (B 0)), (1, zI h)] [] σ _
  have h01 : 0 ≤ h ∧ h < N 0 := by omega
  refine zF_aload_n 6 dX11_program_5 rfl rfl ?_
  refine zF_getR 9 dX11_program_6 rfl gX11_66 hO.2.1 hO.2.2.1 hO.2.2.2.2.2.2.2.2.2.2.1 ?_
  refine zF_aload_n 10 dX11_program_9 rfl rfl ?_
  refine zF_getR 13 dX11_program_10 rfl gX11_34 hO.2.1 hO.2.2.1 hO.2.2.2.2.2.2.1 ?_
  refine zF_callV 16 (d2 := (d + 8)) (as := [zR (B 200)]) dX11_program_13 rfl kX11_335 iX4_record (ci := 4) rfl eX4_record (Nat.le_refl _) hH.1 hH.2.1 rfl rfl (Nat.le_of_ble_eq_true rfl) (zE.mono (zt_X4_record hB hH hV hR.2.1 hr) fun ro σa2 hh2 => ?_)
  obtain ⟨er2, fr2, p2⟩ := hh2
  subst er2
  refine ⟨fr2.1, ?_⟩
  show zF G mX11_program (d + 9) 16 [(0, zR (B 0)), (1, zI h)] [] σa2 _
  have hBr := cM_fr hB fr2
  have hRr := cR_rg hB (cHm_rg fr2) (by omega) hR
  have hHr := cHs_fr hH fr2
  have hOr := cO_fr hO fr2
  have hPr := cPr_fr hP fr2
  have hr0r := cMu_0 hB.inj (cHm_mu fr2) hr0
  refine zF_aload_n 17 dX11_program_16 rfl rfl ?_
  refine zF_getR 20 dX11_program_17 rfl gX11_52 hOr.2.1 hOr.2.2.1 hOr.2.2.2.2.2.2.2.2.1 ?_
  refine zF_iload_n 21 dX11_program_20 rfl rfl ?_
  refine zF_callV 24 (d2 := (d + 8)) (as := [zI h]) dX11_program_21 rfl kX11_301 iX5_findBest (ci := 5) rfl eX5_findBest (Nat.le_refl _) hPr.1 hPr.2.1 rfl rfl (Nat.le_of_ble_eq_true rfl) (zE.mono (zt_X5_findBest (h := h) hBr hPr hRr hV hQ.c h01.1 h01.2 hr0r) fun ro σg3 hh3 => ?_)
  obtain ⟨er3, fr3, c3x, vv3, px3, ⟨gx3, pm3⟩, cr3⟩ := hh3
  subst er3
  refine ⟨fr3.1, ?_⟩
  have hB2 := cM_fr hBr fr3
  have hP2 := cPr_fr hPr fr3
  have hR2 := PGG_cR hBr fr3 hRr
  have hO2 := cO_fr hOr fr3
  have hH2 := cHs_fr hHr fr3
  have gpp : 0 ≤ pG N h (lmP N h) (bF N h (lmP N h)) := by
    have ok := bG_ok hV hX hQ h01.1 h01.2 ⟨_, pm3⟩
    have pq := bG_eq pm3 ▸ pm3
    obtain ⟨⟨t, t1, t2⟩, _⟩ := pq
    have := (bF_sp px3).2.1 t t1
    omega
  refine zF_aload_n 25 dX11_program_24 rfl rfl ?_
  refine zF_getR 28 dX11_program_25 rfl gX11_52 hO2.2.1 hO2.2.2.1 hO2.2.2.2.2.2.2.2.2.1 ?_
  refine zF_callV 31 (d2 := (d + 8)) (as := []) dX11_program_28 rfl kX11_354 iX5_bookFound (ci := 5) rfl eX5_bookFound (Nat.le_refl _) hP2.1 hP2.2.1 rfl rfl (Nat.le_of_ble_eq_true rfl) (zE.mono (zt_X5_bookFound hB2 hP2 hV hX hQ.c vv3 (bF_b hV hW px3.1) hR2.2.1) fun ro σa4 hh4 => ?_)
  obtain ⟨er4, fr4, p4⟩ := hh4
  subst er4
  refine ⟨fr4.1, ?_⟩
  show zF G mX11_program (d + 9) 31 [(0, zR (B 0)), (1, zI h)] [zI (prC N h c3x (nn N h))] σa4 _
  have hB3 := cM_fr hB2 fr4
  have hO3 := cO_fr hO2 fr4
  have ec : ∀ k : Nat, k < nn N h → c3x k = bF N h (lmP N h) k := bF_eq (by omega) px3
  have epN := prN_congr (N := N) (h := h) (nn N h) ec
  have ecR : prC N h c3x (nn N h) = oPrV N h := prC_congr ec
  have gp := gS_pr g h01.1 h01.2 ⟨_, px3⟩ (bG_ok hV hX hQ h01.1 h01.2 ⟨_, pm3⟩) (bG_eq pm3 ▸ pm3)
  have gpn : gN T (prN N h (bF N h (lmP N h)) (nn N h)) := gp.n
  have fA : zFr (zRg 200 600 B) σa2 σa4 := ((PGG_hi (lo := 0) (hi := 0) hB.inj fr3).wk fun _ _ ⟨i, a, b, e⟩ => ⟨i, by omega, by omega, e⟩).tr ((PB3_rg fr4).wk fun _ _ ⟨i, a, b, e⟩ => ⟨i, by omega, by omega, e⟩)
  have fAm : zFr (cMu B) σa2 σa4 := (cSc_mu (PGG_sc fr3)).tr (zRg_mu hB.inj (PB3_rg fr4) (by omega))
  have hR0 : cR0 (prN N h (bF N h (lmP N h)) (nn N h)) σa4 B := ⟨cRc_cE hV (prN_gN gn h01.1 h01.2 (bF_sp px3).1 (pG_prints hV hQ.c h01.1 (by omega) gpp)).2 (cRc_congr (fun k hk => (PB3_rg fr4).rg hB.inj (by omega)) hR2.1), epN ▸ p4⟩
  refine zF_istore_n 32 (ls' := [(2, zI (prC N h c3x (nn N h))), (0, zR (B 0)), (1, zI h)]) dX11_program_31 rfl (by decide) rfl ?_
  refine zF_aload_n 33 dX11_program_32 rfl rfl ?_
  refine zF_getR 36 dX11_program_33 rfl gX11_43 hO3.2.1 hO3.2.2.1 hO3.2.2.2.2.2.2.2.1 ?_
  refine zF_callV 39 (d2 := (d + 8)) (as := []) dX11_program_36 rfl kX11_136 iX10_refresh (ci := 10) rfl eX10_refresh (Nat.le_refl _) hB3.wk.1 hB3.wk.2.1 rfl rfl (Nat.le_of_ble_eq_true rfl) (zE.mono (zt_X10_refresh (σ := σa4) (N := prN N h (bF N h (lmP N h)) (nn N h)) hB3 hR0 gpn.v gpn.x gpn.w) fun ro σa5 hh5 => ?_)
  obtain ⟨er5, fr5, p5⟩ := hh5
  subst er5
  refine ⟨fr5.1, ?_⟩
  show zF G mX11_program (d + 9) 39 [(2, zI (prC N h c3x (nn N h))), (0, zR (B 0)), (1, zI h)] [] σa5 _
  refine zF_iload_n 40 dX11_program_39 rfl rfl ?_
  exact zF_ireturn dX11_program_40 rfl (copMR ((cHm_mu fr2).tr (fAm.tr (zRg_mu hB.inj fr5 (by omega)))) (by repeat (first | rw [if_pos (by omega)] | rw [if_neg (by omega)])) ecR (S' := oPrS (N, H, u) h) rfl ⟨p5, _, cHr_rg hB.inj fr5 (by omega) (cHr_rg hB.inj fA (by omega) p2)⟩)
end ZC14

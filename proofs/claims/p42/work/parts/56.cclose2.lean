/-! the class: close, its end -/
section ZC17
variable {G : zG} {d : Nat} {σ σ0 : zMem} {B : Nat → Nat} {N : Int → Int}
def PCw (B : Nat → Nat) (h : Nat) (j : Int) : Prop := zRg 200 216 B h j ∨ h = B 503
theorem zsi_H {h h2 : Nat} {i v : Int} (e : h2 ≠ h) : zia (zsi σ h i v) h2 = zia σ h2 := funext fun j => zsi_N e rfl
theorem cw_end (hV : mV N) (hj : ∀ i j, B i = B j → i = j) (hR : cR N σ B) (h3 : N 3 < 60) {σ1 σ2 σ3 σ4 σ5 : zMem} {cnt w : Int}
    (f1 : zFr (fun y _ => y = B 214 ∨ y = B 215) σ σ1) (a1 : amF σ σ1 B (N 3 % 20 * 5) (clA N))
    (f2 : zFr (fun y _ => y = B 212) σ1 σ2) (a2 : ∀ f, 0 ≤ f → f < N 2 → zia σ2 (B 212) f = mF N f 9 + cFt N f)
    (f3 : zFr (fun y _ => y = B 213 ∨ y = B 210) σ2 σ3) (a3 : rnI N (nH N) 0 σ3 B)
    (f4 : zFr (fun y _ => y = B 206 ∨ y = B 207 ∨ y = B 208 ∨ y = B 209 ∨ y = B 503) σ3 σ4) (a4 : ∀ s : Nat, s < nS N → zia σ4 (B 206) s = hFl N s ∧ zia σ4 (B 207) s = -1 ∧ zia σ4 (B 208) s = 0 ∧ zia σ4 (B 209) s = zb (mHold N s))
    (f5 : zFr (fun y _ => y = B 211) (zsi (zsi (zsi σ4 (B 215) (N 3 % 20 * 5 + 4) cnt) (B 200) ((1 : Nat) : Int) 0) (B 200) ((0 : Nat) : Int) w) σ5)
    (a5 : ∀ f, 0 ≤ f → f < N 2 → zia σ5 (B 211) f = if clB N f (nH N) = -1 then mDem N f else mDem N f * mF N f 1 / 100) (ec : cnt = zsum (fun s => zb (mHold N s)) (nS N)) (ew : w = N 3 + 1) : zFr (PCw B) σ σ5 ∧ cRs (clN N) σ5 B 200 := by
  subst ec
  subst ew
  have ne : ∀ {i j : Nat}, i ≠ j → B i ≠ B j := fun h e => h (hj _ _ e)
  have e5 : ∀ k, k ≠ 211 → zia σ5 (B k) = zia (zsi (zsi (zsi σ4 (B 215) (N 3 % 20 * 5 + 4) (zsum (fun s => zb (mHold N s)) (nS N))) (B 200) ((1 : Nat) : Int) 0) (B 200) ((0 : Nat) : Int) (N 3 + 1)) (B k) := fun k hk => f5.at fun _ q => hk (hj _ _ q)
  have e7 : ∀ k, k ≠ 211 → k ≠ 200 → k ≠ 215 → zia σ5 (B k) = zia σ4 (B k) := fun k h1 h2 h3 => by rw [e5 k h1, zsi_H (ne h2), zsi_H (ne h2), zsi_H (ne h3)]
  have e4 : ∀ k, k ≠ 206 → k ≠ 207 → k ≠ 208 → k ≠ 209 → k ≠ 503 → zia σ4 (B k) = zia σ3 (B k) := fun k h1 h2 h3 h4 h5 => f4.at fun _ q => by
    rcases q with q | q | q | q | q <;> have := hj _ _ q <;> omega
  have e3 : ∀ k, k ≠ 213 → k ≠ 210 → zia σ3 (B k) = zia σ2 (B k) := fun k h1 h2 => f3.at fun _ q => by
    rcases q with q | q <;> have := hj _ _ q <;> omega
  have e2 : ∀ k, k ≠ 212 → zia σ2 (B k) = zia σ1 (B k) := fun k h1 => f2.at fun _ q => h1 (hj _ _ q)
  have e1 : ∀ k, k ≠ 214 → k ≠ 215 → zia σ1 (B k) = zia σ (B k) := fun k h1 h2 => f1.at fun _ q => by
    rcases q with q | q <;> have := hj _ _ q <;> omega
  have e41 : ∀ k, (k < 206 ∨ k = 214 ∨ k = 215) → zia σ4 (B k) = zia σ1 (B k) := fun k hk => by rw [e4 k (by omega) (by omega) (by omega) (by omega) (by omega), e3 k (by omega) (by omega), e2 k (by omega)]
  have g : ∀ {k : Nat} {y : Nat} {j : Int}, 200 ≤ k ∧ k < 216 → y = B k → PCw B y j := fun h e => Or.inl ⟨_, h.1, h.2, e⟩
  have e215 : zia σ5 (B 215) = zia (zsi σ4 (B 215) (N 3 % 20 * 5 + 4) (zsum (fun s => zb (mHold N s)) (nS N))) (B 215) := by rw [e5 215 (by omega), zsi_H (ne (by omega)), zsi_H (ne (by omega))]
  refine ⟨?_, clN_cRs hV h3 hR.s ?_ ?_ ?_ (fun k hk => ?_) (fun s hs => ?_) ?_ a5 (fun f f0 fN => ?_) (fun k k0 k1 => ?_) (fun k k0 k1 => ?_) ?_ (fun j hj2 => ?_)⟩
  · have q1 : zFr (PCw B) σ σ1 := f1.wk fun _ _ q => q.elim (fun q => g (by omega) q) (fun q => g (by omega) q)
    have q2 : zFr (PCw B) σ1 σ2 := f2.wk fun _ _ q => g (by omega) q
    have q3 : zFr (PCw B) σ2 σ3 := f3.wk fun _ _ q => q.elim (fun q => g (by omega) q) (fun q => g (by omega) q)
    have q4 : zFr (PCw B) σ3 σ4 := f4.wk fun _ _ q => by
      rcases q with q | q | q | q | q
      · exact g (by omega) q
      · exact g (by omega) q
      · exact g (by omega) q
      · exact g (by omega) q
      · exact Or.inr q
    have q5 : zFr (PCw B) σ4 _ := zFr_si (h := B 200) (j := ((0 : Nat) : Int)) (v := N 3 + 1) (g (by omega) rfl) (zFr_si (h := B 200) (j := ((1 : Nat) : Int)) (v := 0) (g (by omega) rfl) (zFr_si (h := B 215) (j := N 3 % 20 * 5 + 4) (v := zsum (fun s => zb (mHold N s)) (nS N)) (g (by omega) rfl) zFr.rf))
    have q6 : zFr (PCw B) _ σ5 := f5.wk fun _ _ q => g (by omega) q
    exact q1.tr (q2.tr (q3.tr (q4.tr (q5.tr q6))))
  · rw [e5 200 (by omega)]; exact zsi_same _ _ _ _
  · rw [e5 200 (by omega)]; exact zsi_F (by decide) (zsi_same _ _ _ _)
  · rw [e5 200 (by omega)]
    refine zsi_F (by decide) (zsi_F (by decide) ?_)
    rw [zsi_H (ne (by omega)), e41 200 (by omega), e1 200 (by omega) (by omega)]; exact hR.s.1.2.2
  · rw [e7 k (by omega) (by omega) (by omega), e41 k (by omega), e1 k (by omega) (by omega)]
  · rw [e7 206 (by omega) (by omega) (by omega), e7 207 (by omega) (by omega) (by omega), e7 208 (by omega) (by omega) (by omega), e7 209 (by omega) (by omega) (by omega)]; exact a4 s hs
  · exact ⟨fun h f a b c e => by rw [e7 213 (by omega) (by omega) (by omega), e4 213 (by omega) (by omega) (by omega) (by omega) (by omega)]; exact a3.1 h f a b c e, fun f a b => by rw [e7 210 (by omega) (by omega) (by omega), e4 210 (by omega) (by omega) (by omega) (by omega) (by omega)]; exact a3.2 f a b⟩
  · rw [e7 212 (by omega) (by omega) (by omega), e4 212 (by omega) (by omega) (by omega) (by omega) (by omega), e3 212 (by omega) (by omega)]; exact a2 f f0 fN
  · rw [e7 214 (by omega) (by omega) (by omega), e41 214 (by omega), a1.1 k k0 k1, show zia σ (B 214) k = N (208 + k) from hR.s.2.2.2.2.1 k k0 k1]
  · rw [e215]
    refine zsi_F (by omega) ?_
    rw [e41 215 (by omega)]; exact a1.2.1 k k0 k1
  · rw [e215]; exact zsi_same _ _ _ _
  · rw [e215]
    refine zsi_F (by omega) ?_
    rw [e41 215 (by omega)]; exact a1.2.2 j (by omega)
theorem zt_X8_countHeld2 {a : Int} {n : Nat} {g : Int → Int} (hB : cM σ B) (ea : a = (n : Int)) (hn : n ≤ 10) (hp : ∀ s : Nat, s < n → zia σ (B 209) s = g s) : zP1 G mX8_countHeld d [zR (B 200), zI a] σ (zsum g n) := by
  refine zE_of rfl (by simp [zcat]) (Nat.le_of_ble_eq_true rfl) ?_
  show zF G mX8_countHeld d 0 [(0, zR (B 200)), (1, zI a)] [] σ _
  refine zF_iconst 1 dX8_countHeld_0 rfl ?_
  refine zF_istore_n 2 (ls' := [(2, zI 0), (0, zR (B 200)), (1, zI a)]) dX8_countHeld_1 rfl (by decide) rfl ?_
  refine zF_iconst 3 dX8_countHeld_2 rfl ?_
  refine zF_istore_n 4 (ls' := [(3, zI 0), (2, zI 0), (0, zR (B 200)), (1, zI a)]) dX8_countHeld_3 rfl (by decide) rfl ?_
  refine zF_locs (ls' := (fun (i : Nat) => [(3, zI (i : Int)), (2, zI (zsum g i)), (0, zR (B 200)), (1, zI a)]) 0) ⟨zlI rfl (by first | rfl | omega | (push_cast; omega) | exact congrArg (_ + ·) (zbT (by assumption)) | exact congrArg (_ + ·) (zbF (by assumption)) | exact congrArg (_ + ·) (zbT (by omega)) | exact congrArg (_ + ·) (zbF (by omega)) | exact congrArg (_ + ·) (if_pos (by omega)).symm | exact congrArg (_ + ·) (if_neg (by omega)).symm | exact (if_pos (by omega)).symm | exact (if_neg (by omega)).symm | exact zsub_s (if_pos (by omega)).symm | exact zsub_s0 (if_neg (by omega)).symm | exact zadd0 (if_neg (by omega)).symm | exact zadd0 (zbF (by omega)) | exact (Int.sub_zero _).symm), zlI rfl (by first | rfl | omega | (push_cast; omega) | exact congrArg (_ + ·) (zbT (by assumption)) | exact congrArg (_ + ·) (zbF (by assumption)) | exact congrArg (_ + ·) (zbT (by omega)) | exact congrArg (_ + ·) (zbF (by omega)) | exact congrArg (_ + ·) (if_pos (by omega)).symm | exact congrArg (_ + ·) (if_neg (by omega)).symm | exact (if_pos (by omega)).symm | exact (if_neg (by omega)).symm | exact zsub_s (if_pos (by omega)).symm | exact zsub_s0 (if_neg (by omega)).symm | exact zadd0 (if_neg (by omega)).symm | exact zadd0 (zbF (by omega)) | exact (Int.sub_zero _).symm), rfl, rfl, trivial⟩ ?_
  refine zF_loop (n := n) (fun (i : Nat) => [(3, zI (i : Int)), (2, zI (zsum g i)), (0, zR (B 200)), (1, zI a)]) (fun _ => σ) (fun i hi ih4 => ?_) ?_
  · show zF G mX8_countHeld d 4 [(3, zI (i : Int)), (2, zI (zsum g i)), (0, zR (B 200)), (1, zI a)] [] σ _
    refine zF_iload_n 5 dX8_countHeld_4 rfl rfl ?_
    refine zF_iload_n 6 dX8_countHeld_5 rfl rfl ?_
    refine zF_icmp_ge 24 9 dX8_countHeld_6 rfl rfl (by first | decide | assumption | (constructor <;> omega)) (by first | decide | assumption | (constructor <;> omega)) (fun c1 => ?_) (fun c1 => ?_)
    · exact absurd c1 (by omega)
    · refine zF_iload_n 10 dX8_countHeld_9 rfl rfl ?_
      refine zF_aload_n 11 dX8_countHeld_10 rfl rfl ?_
      refine zF_getR 14 dX8_countHeld_11 rfl gX8_30 hB.st.1 hB.st.2.1 (cB_209 hB).1 ?_
      refine zF_iload_n 15 dX8_countHeld_14 rfl rfl ?_
      refine zF_iaload 16 dX8_countHeld_15 rfl (cB_209 hB).2.2 (cB_209 hB).2.1 (by omega) (by omega) (hp i (by omega)) ?_
      refine zF_iadd 17 dX8_countHeld_16 rfl ?_
      refine zF_istore_n 18 (ls' := [(2, zI ((zsum g i) + (g (i : Int)))), (3, zI (i : Int)), (0, zR (B 200)), (1, zI a)]) dX8_countHeld_17 rfl (by decide) rfl ?_
      refine zF_iinc 21 (ls' := [(3, zI ((i : Int) + 1)), (2, zI ((zsum g i) + (g (i : Int)))), (0, zR (B 200)), (1, zI a)]) dX8_countHeld_18 rfl rfl rfl (by decide) rfl ?_
      refine zF_goto 4 dX8_countHeld_21 rfl ?_
      exact zF_locs (ls' := [(3, zI ((i + 1 : Nat) : Int)), (2, zI (zsum g (i + 1))), (0, zR (B 200)), (1, zI a)]) ⟨zlI rfl (by first | rfl | omega | (push_cast; omega) | exact congrArg (_ + ·) (zbT (by assumption)) | exact congrArg (_ + ·) (zbF (by assumption)) | exact congrArg (_ + ·) (zbT (by omega)) | exact congrArg (_ + ·) (zbF (by omega)) | exact congrArg (_ + ·) (if_pos (by omega)).symm | exact congrArg (_ + ·) (if_neg (by omega)).symm | exact (if_pos (by omega)).symm | exact (if_neg (by omega)).symm | exact zsub_s (if_pos (by omega)).symm | exact zsub_s0 (if_neg (by omega)).symm | exact zadd0 (if_neg (by omega)).symm | exact zadd0 (zbF (by omega)) | exact (Int.sub_zero _).symm), zlI rfl (by first | rfl | omega | (push_cast; omega) | exact congrArg (_ + ·) (zbT (by assumption)) | exact congrArg (_ + ·) (zbF (by assumption)) | exact congrArg (_ + ·) (zbT (by omega)) | exact congrArg (_ + ·) (zbF (by omega)) | exact congrArg (_ + ·) (if_pos (by omega)).symm | exact congrArg (_ + ·) (if_neg (by omega)).symm | exact (if_pos (by omega)).symm | exact (if_neg (by omega)).symm | exact zsub_s (if_pos (by omega)).symm | exact zsub_s0 (if_neg (by omega)).symm | exact zadd0 (if_neg (by omega)).symm | exact zadd0 (zbF (by omega)) | exact (Int.sub_zero _).symm), rfl, rfl, trivial⟩ ih4
  · show zF G mX8_countHeld d 4 [(3, zI ((n : Nat) : Int)), (2, zI (zsum g n)), (0, zR (B 200)), (1, zI a)] [] σ _
    refine zF_iload_n 5 dX8_countHeld_4 rfl rfl ?_
    refine zF_iload_n 6 dX8_countHeld_5 rfl rfl ?_
    refine zF_icmp_ge 24 9 dX8_countHeld_6 rfl rfl (by first | decide | assumption | (constructor <;> omega)) (by first | decide | assumption | (constructor <;> omega)) (fun c2 => ?_) (fun c2 => ?_)
    · refine zF_iload_n 25 dX8_countHeld_24 rfl rfl ?_
      exact zF_iretP dX8_countHeld_25 rfl (rfl)
    · exact absurd c2 (by omega)
theorem zt_X3_ageFilms (hB : cM σ B) (hC : cCl σ B) (hV : mV N) (e2 : zia σ (B 100) ((7 : Nat) : Int) = N 2) (e9 : ∀ f, 0 ≤ f → f < N 2 → zia σ (B 109) f = mF N f 1) (e10 : ∀ f, 0 ≤ f → f < N 2 → zia σ (B 210) f = clB N f (nH N)) (e11 : ∀ f, 0 ≤ f → f < N 2 → zia σ (B 211) f = mDem N f) : zE G mX3_ageFilms d [zR (B 500)] σ (fun ro σ1 => ro = .inl none ∧ zFr (fun y _ => y = B 211) σ σ1 ∧ ∀ f, 0 ≤ f → f < N 2 → zia σ1 (B 211) f = if clB N f (nH N) = -1 then mDem N f else mDem N f * mF N f 1 / 100) := by
  refine zE_of rfl (by simp [zcat]) (Nat.le_of_ble_eq_true rfl) ?_
  show zF G mX3_ageFilms d 0 [(0, zR (B 500))] [] σ _
  have hb := hV.b
  have hn := hV.n
  have hf0 := nF_eq hV
  refine zF_iconst 1 dX3_ageFilms_0 rfl ?_
  refine zF_istore_n 2 (ls' := [(1, zI 0), (0, zR (B 500))]) dX3_ageFilms_1 rfl (by decide) rfl ?_
  refine zF_locs (ls' := [(1, zI ((0 : Nat) : Int)), (0, zR (B 500))]) ⟨zlI rfl (by first | rfl | omega | (push_cast; omega) | exact congrArg (_ + ·) (zbT (by assumption)) | exact congrArg (_ + ·) (zbF (by assumption)) | exact congrArg (_ + ·) (zbT (by omega)) | exact congrArg (_ + ·) (zbF (by omega)) | exact congrArg (_ + ·) (if_pos (by omega)).symm | exact congrArg (_ + ·) (if_neg (by omega)).symm | exact (if_pos (by omega)).symm | exact (if_neg (by omega)).symm | exact zsub_s (if_pos (by omega)).symm | exact zsub_s0 (if_neg (by omega)).symm | exact zadd0 (if_neg (by omega)).symm | exact zadd0 (zbF (by omega)) | exact (Int.sub_zero _).symm), rfl, trivial⟩ ?_
  refine zF_while (X := Nat) (fun x => nF N - x) (fun x σ2 => x ≤ nF N ∧ zFr (fun y _ => y = B 211) σ σ2 ∧ ∀ f, 0 ≤ f → f < N 2 → zia σ2 (B 211) f = if f < (x : Int) then (if clB N f (nH N) = -1 then mDem N f else mDem N f * mF N f 1 / 100) else mDem N f) (fun x => [(1, zI ((x : Nat) : Int)), (0, zR (B 500))]) ?_ 0 σ (⟨Nat.zero_le _, zFr.rf, fun f a b => by rw [e11 f a b, if_neg (by omega)]⟩)
  intro x σ2 hI2 ih2
  show zF G mX3_ageFilms d 2 [(1, zI ((x : Nat) : Int)), (0, zR (B 500))] [] σ2 _
  obtain ⟨hx, fr2, i2⟩ := hI2
  have hB2 := cM_fr hB fr2
  have hC2 := cCl_fr hC fr2
  have ek2 : ∀ k, k ≠ 211 → zia σ2 (B k) = zia σ (B k) := fun k hk => fr2.at fun _ q => hk (hB.inj _ _ q)
  refine zF_iload_n 3 dX3_ageFilms_2 rfl rfl ?_
  refine zF_aload_n 4 dX3_ageFilms_3 rfl rfl ?_
  refine zF_getR 7 dX3_ageFilms_4 rfl gX3_15 hC2.1 hC2.2.1 hC2.2.2.1 ?_
  refine zF_getI 10 dX3_ageFilms_7 rfl gX3_90 (by decide) (by decide) hB2.ch.1 hB2.ch.2.1 ((congrFun (ek2 100 (by omega)) _).trans e2) ?_
  refine zF_icmp_ge 63 13 dX3_ageFilms_10 rfl rfl (by first | decide | assumption | exact hb _ | exact zb_rg _ | (constructor <;> omega)) (by first | decide | assumption | exact hb _ | exact zb_rg _ | (constructor <;> omega)) (fun c1 => ?_) (fun c1 => ?_)
  · exact zF_return dX3_ageFilms_63 rfl (⟨rfl, fr2, fun f a b => by rw [i2 f a b, if_pos (by omega)]⟩)
  · have qr := clB_r hV (f := (x : Int)) (by omega) (by omega) (nH N)
    have qd := mDem_b hV (f := (x : Int)) (by omega) (by omega) (mAge N x).toNat
    have qd2 : mDem N x = mDemN N x (mAge N x).toNat := rfl
    have qf := hV.f (x : Int) (by omega) (by omega)
    have qm := zmul_b (a := mDem N x) (b := mF N x 1) (X := 9999) (Y := 100) (by omega) (by omega) (by omega) (by omega)
    refine zF_aload_n 14 dX3_ageFilms_13 rfl rfl ?_
    refine zF_getR 17 dX3_ageFilms_14 rfl gX3_19 hC2.1 hC2.2.1 hC2.2.2.2.1 ?_
    refine zF_getR 20 dX3_ageFilms_17 rfl gX3_108 hB2.st.1 hB2.st.2.1 (cB_210 hB2).1 ?_
    refine zF_iload_n 21 dX3_ageFilms_20 rfl rfl ?_
    refine zF_iaload 22 dX3_ageFilms_21 rfl (cB_210 hB2).2.2 (cB_210 hB2).2.1 (by omega) (by omega) ((congrFun (ek2 210 (by omega)) _).trans (e10 _ (by omega) (by omega))) ?_
    refine zF_iconst 23 dX3_ageFilms_22 rfl ?_
    refine zF_icmp_eq 57 26 dX3_ageFilms_23 rfl rfl (by first | decide | assumption | exact hb _ | exact zb_rg _ | (constructor <;> omega)) (by first | decide | assumption | exact hb _ | exact zb_rg _ | (constructor <;> omega)) (fun c2 => ?_) (fun c2 => ?_)
    · refine zF_iinc 60 (ls' := [(1, zI (((x : Nat) : Int) + 1)), (0, zR (B 500))]) dX3_ageFilms_57 rfl rfl rfl (by decide) rfl ?_
      refine zF_goto 2 dX3_ageFilms_60 rfl ?_
      exact zF_locs (ls' := [(1, zI (((x + 1) : Nat) : Int)), (0, zR (B 500))]) ⟨zlI rfl (by first | rfl | omega | (push_cast; omega) | exact congrArg (_ + ·) (zbT (by assumption)) | exact congrArg (_ + ·) (zbF (by assumption)) | exact congrArg (_ + ·) (zbT (by omega)) | exact congrArg (_ + ·) (zbF (by omega)) | exact congrArg (_ + ·) (if_pos (by omega)).symm | exact congrArg (_ + ·) (if_neg (by omega)).symm | exact (if_pos (by omega)).symm | exact (if_neg (by omega)).symm | exact zsub_s (if_pos (by omega)).symm | exact zsub_s0 (if_neg (by omega)).symm | exact zadd0 (if_neg (by omega)).symm | exact zadd0 (zbF (by omega)) | exact (Int.sub_zero _).symm), rfl, trivial⟩ (ih2 (x + 1) _ (by omega) (⟨by omega, fr2, fun f a b => by
          rw [i2 f a b]
          by_cases c : f < (x : Int)
          · rw [if_pos c, if_pos (c := f < ((x + 1 : Nat) : Int)) (by omega)]
          · rw [if_neg c]
            by_cases c2 : f < ((x + 1 : Nat) : Int)
            · rw [if_pos c2, show f = (x : Int) by omega, if_pos (by assumption)]
            · rw [if_neg c2]⟩))
    · refine zF_aload_n 27 dX3_ageFilms_26 rfl rfl ?_
      refine zF_getR 30 dX3_ageFilms_27 rfl gX3_19 hC2.1 hC2.2.1 hC2.2.2.2.1 ?_
      refine zF_getR 33 dX3_ageFilms_30 rfl gX3_126 hB2.st.1 hB2.st.2.1 (cB_211 hB2).1 ?_
      refine zF_iload_n 34 dX3_ageFilms_33 rfl rfl ?_
      refine zF_aload_n 35 dX3_ageFilms_34 rfl rfl ?_
      refine zF_getR 38 dX3_ageFilms_35 rfl gX3_19 hC2.1 hC2.2.1 hC2.2.2.2.1 ?_
      refine zF_getR 41 dX3_ageFilms_38 rfl gX3_126 hB2.st.1 hB2.st.2.1 (cB_211 hB2).1 ?_
      refine zF_iload_n 42 dX3_ageFilms_41 rfl rfl ?_
      refine zF_iaload 43 dX3_ageFilms_42 rfl (cB_211 hB2).2.2 (cB_211 hB2).2.1 (by omega) (by omega) ((i2 (x : Int) (by omega) (by omega)).trans (if_neg (by omega))) ?_
      refine zF_aload_n 44 dX3_ageFilms_43 rfl rfl ?_
      refine zF_getR 47 dX3_ageFilms_44 rfl gX3_15 hC2.1 hC2.2.1 hC2.2.2.1 ?_
      refine zF_getR 50 dX3_ageFilms_47 rfl gX3_129 hB2.ch.1 hB2.ch.2.1 (cB_109 hB2).1 ?_
      refine zF_iload_n 51 dX3_ageFilms_50 rfl rfl ?_
      refine zF_iaload 52 dX3_ageFilms_51 rfl (cB_109 hB2).2.2 (cB_109 hB2).2.1 (by omega) (by omega) ((congrFun (ek2 109 (by omega)) _).trans (e9 _ (by omega) (by omega))) ?_
      refine zF_imul 53 dX3_ageFilms_52 rfl ?_
      refine zF_bipush 55 dX3_ageFilms_53 rfl (by decide) ?_
      refine zF_idiv 56 dX3_ageFilms_55 rfl (by omega) (by omega) (by omega) (by omega) ?_
      refine zF_iastore 57 dX3_ageFilms_56 rfl (cB_211 hB2).2.2 (cB_211 hB2).2.1 (by omega) (by omega) ?_
      refine zF_iinc 60 (ls' := [(1, zI (((x : Nat) : Int) + 1)), (0, zR (B 500))]) dX3_ageFilms_57 rfl rfl rfl (by decide) rfl ?_
      refine zF_goto 2 dX3_ageFilms_60 rfl ?_
      exact zF_locs (ls' := [(1, zI (((x + 1) : Nat) : Int)), (0, zR (B 500))]) ⟨zlI rfl (by first | rfl | omega | (push_cast; omega) | exact congrArg (_ + ·) (zbT (by assumption)) | exact congrArg (_ + ·) (zbF (by assumption)) | exact congrArg (_ + ·) (zbT (by omega)) | exact congrArg (_ + ·) (zbF (by omega)) | exact congrArg (_ + ·) (if_pos (by omega)).symm | exact congrArg (_ + ·) (if_neg (by omega)).symm | exact (if_pos (by omega)).symm | exact (if_neg (by omega)).symm | exact zsub_s (if_pos (by omega)).symm | exact zsub_s0 (if_neg (by omega)).symm | exact zadd0 (if_neg (by omega)).symm | exact zadd0 (zbF (by omega)) | exact (Int.sub_zero _).symm), rfl, trivial⟩ (ih2 (x + 1) _ (by omega) (⟨by omega, zFr_si rfl fr2, fun f a b => by
          rw [zia_si]
          by_cases c : f = (x : Int)
          · rw [if_pos ⟨rfl, c⟩, c, if_pos (c := (x : Int) < ((x + 1 : Nat) : Int)) (by omega), if_neg (by assumption)]
          · rw [if_neg (fun q => c q.2), i2 f a b]
            by_cases c2 : f < (x : Int)
            · rw [if_pos c2, if_pos (c := f < ((x + 1 : Nat) : Int)) (by omega)]
            · rw [if_neg c2, if_neg (c := f < ((x + 1 : Nat) : Int)) (by omega)]⟩))
theorem zt_X3_closeWeek (hB : cM σ B) (hC : cCl σ B) (hR : cR N σ B) (hV : mV N) (hX : mX N) (hW : mW N) (hQ : mQ N) (ha : amR N) (h3 : N 3 < 60) : zE G mX3_closeWeek (d + 6) [zR (B 500)] σ (fun ro σ1 => ro = .inl (some (zI (clA N 0))) ∧ zFr (PCw B) σ σ1 ∧ cRs (clN N) σ1 B 200) := by
  refine zE_of rfl (by simp [zcat]) (Nat.le_of_ble_eq_true rfl) ?_
  show zF G mX3_closeWeek (d + 6) 0 [(0, zR (B 500))] [] σ _
  have hb := hV.b
  have hn := hV.n
  have hs0 := nS_eq hV
  refine zF_aload_n 1 dX3_closeWeek_0 rfl rfl ?_
  refine zF_getR 4 dX3_closeWeek_1 rfl gX3_23 hC.1 hC.2.1 hC.2.2.2.2.1 ?_
  refine zF_callVi 7 (d2 := (d + 5)) (as := []) dX3_closeWeek_4 rfl kX3_27 iX10_allTakings (ci := 10) rfl eX10_allTakings (Nat.le_refl _) hB.wk.1 hB.wk.2.1 rfl rfl (Nat.le_of_ble_eq_true rfl) (zt_X10_allTakings hB hR hV hW) ?_
  refine zF_istore_n 8 (ls' := [(1, zI (cAllN N (nS N))), (0, zR (B 500))]) dX3_closeWeek_7 rfl (by decide) rfl ?_
  refine zF_aload_n 9 dX3_closeWeek_8 rfl rfl ?_
  refine zF_iload_n 10 dX3_closeWeek_9 rfl rfl ?_
  refine zF_callV 13 (d2 := (d + 5)) (as := [zI (cAllN N (nS N))]) dX3_closeWeek_10 rfl kX3_33 iX3_addAmounts (ci := 3) rfl eX3_addAmounts (Nat.le_refl _) hC.1 hC.2.1 rfl rfl (Nat.le_of_ble_eq_true rfl) (zE.mono (zt_X3_addAmounts hB hC hR hV hX hW (if_pos rfl).symm) fun ro σa1 hh1 => ?_)
  obtain ⟨er1, fr1, p1⟩ := hh1
  subst er1
  refine ⟨fr1.1, ?_⟩
  show zF G mX3_closeWeek (d + 6) 13 [(1, zI (cAllN N (nS N))), (0, zR (B 500))] [] σa1 _
  have m1 := cMd_am hV hQ ha hB.inj hR fr1 p1
  have hBc1 := cM_fr hB m1.1
  have hCc1 := cCl_fr hC fr1
  have e1 : ∀ k, k ≤ 213 → zia σa1 (B k) = zia σ (B k) := fun k hk => fr1.at fun _ q => by rcases q with q | q <;> have := hB.inj _ _ q <;> omega
  have f1 := fr1
  have a1 := p1
  refine zF_aload_n 14 dX3_closeWeek_13 rfl rfl ?_
  refine zF_callV 17 (d2 := (d + 5)) (as := []) dX3_closeWeek_14 rfl kX3_37 iX3_addFilmTakings (ci := 3) rfl eX3_addFilmTakings (Nat.le_refl _) hCc1.1 hCc1.2.1 rfl rfl (Nat.le_of_ble_eq_true rfl) (zE.mono (zt_X3_addFilmTakings hB hR hV hX hW hQ m1 hCc1 (fun f a b => (congrFun (e1 212 (by omega)) f).trans (hR.s.2.2.2.1 f a b).2.2.1)) fun ro σa2 hh2 => ?_)
  obtain ⟨er2, fr2, p2⟩ := hh2
  subst er2
  refine ⟨fr2.1, ?_⟩
  show zF G mX3_closeWeek (d + 6) 17 [(1, zI (cAllN N (nS N))), (0, zR (B 500))] [] σa2 _
  have m2 := cMd_212 hB.inj m1 fr2 (fun f a b => by rw [p2 f a b]; have q1 := cFt_b hV hW a; have q2 := hQ.t f a (by omega); constructor <;> omega)
  have hBc2 := cM_fr hB m2.1
  have hCc2 := cCl_fr hCc1 fr2
  have e2 : ∀ k, k ≤ 213 → k ≠ 212 → zia σa2 (B k) = zia σ (B k) := fun k hk hk2 => (fr2.at fun _ q => hk2 (hB.inj _ _ q)).trans (e1 k hk)
  have f2 := fr2
  have a2 := p2
  refine zF_aload_n 18 dX3_closeWeek_17 rfl rfl ?_
  refine zF_callV 21 (d2 := (d + 5)) (as := []) dX3_closeWeek_18 rfl kX3_40 iX3_addRuns (ci := 3) rfl eX3_addRuns (Nat.le_refl _) hCc2.1 hCc2.2.1 rfl rfl (Nat.le_of_ble_eq_true rfl) (zE.mono (zt_X3_addRuns hB hR hV hX hW hQ m2 hCc2 (rnI_0 (fun h f x y z t => (congrFun (e2 213 (by omega) (by omega)) _).trans ((hR.s.2.1 h x y).2 f z t)) (fun f a b => (congrFun (e2 210 (by omega) (by omega)) _).trans (hR.s.2.2.2.1 f a b).1))) fun ro σa3 hh3 => ?_)
  obtain ⟨er3, fr3, p3⟩ := hh3
  subst er3
  refine ⟨fr3.1, ?_⟩
  show zF G mX3_closeWeek (d + 6) 21 [(1, zI (cAllN N (nS N))), (0, zR (B 500))] [] σa3 _
  have m3 := cMd_run hV hQ hB.inj m2 fr3 p3
  have hBc3 := cM_fr hB m3.1
  have hCc3 := cCl_fr hCc2 fr3
  have f3 := fr3
  have a3 := p3
  have e3 : ∀ k, k ≤ 209 → zia σa3 (B k) = zia σ (B k) := fun k hk => PCl_n hB.inj m3.1 (by omega)
  refine zF_aload_n 22 dX3_closeWeek_21 rfl rfl ?_
  refine zF_callV 25 (d2 := (d + 5)) (as := []) dX3_closeWeek_22 rfl kX3_43 iX3_holdScreens (ci := 3) rfl eX3_holdScreens (Nat.le_refl _) hCc3.1 hCc3.2.1 rfl rfl (Nat.le_of_ble_eq_true rfl) (zE.mono (zt_X3_holdScreens hB hR hV hX hW hQ m3 hCc3) fun ro σa4 hh4 => ?_)
  obtain ⟨er4, fr4, p4⟩ := hh4
  subst er4
  refine ⟨fr4.1, ?_⟩
  show zF G mX3_closeWeek (d + 6) 25 [(1, zI (cAllN N (nS N))), (0, zR (B 500))] [] σa4 _
  have hBc4 := cM_fr hBc3 fr4
  have hCc4 := cCl_fr hCc3 fr4
  have f4 := fr4
  have a4 := p4
  have e4 : ∀ k, k ≤ 205 → zia σa4 (B k) = zia σ (B k) := fun k hk => (fr4.at fun _ q => by rcases q with q | q | q | q | q <;> (have := hB.inj _ _ q; omega)).trans (e3 k (by omega))
  have e41 : ∀ k, (k = 210 ∨ k = 211) → zia σa4 (B k) = zia σa3 (B k) := fun k hk => (fr4.at fun _ q => by rcases q with q | q | q | q | q <;> (have := hB.inj _ _ q; omega))
  refine zF_aload_n 26 dX3_closeWeek_25 rfl rfl ?_
  refine zF_getR 29 dX3_closeWeek_26 rfl gX3_19 hCc4.1 hCc4.2.1 hCc4.2.2.2.1 ?_
  refine zF_aload_n 30 dX3_closeWeek_29 rfl rfl ?_
  refine zF_getR 33 dX3_closeWeek_30 rfl gX3_19 hCc4.1 hCc4.2.1 hCc4.2.2.2.1 ?_
  refine zF_getI 36 dX3_closeWeek_33 rfl gX3_46 (by decide) (by decide) hBc4.st.1 hBc4.st.2.1 ((congrFun (e4 200 (by omega)) _).trans hR.s.1.1) ?_
  refine zF_iconst 37 dX3_closeWeek_36 rfl ?_
  refine zF_aload_n 38 dX3_closeWeek_37 rfl rfl ?_
  refine zF_getR 41 dX3_closeWeek_38 rfl gX3_19 hCc4.1 hCc4.2.1 hCc4.2.2.2.1 ?_
  refine zF_aload_n 42 dX3_closeWeek_41 rfl rfl ?_
  refine zF_getR 45 dX3_closeWeek_42 rfl gX3_15 hCc4.1 hCc4.2.1 hCc4.2.2.1 ?_
  refine zF_getI 48 dX3_closeWeek_45 rfl gX3_52 (by decide) (by decide) hBc4.ch.1 hBc4.ch.2.1 ((congrFun (e4 100 (by omega)) _).trans hR.c.1.2.1) ?_
  refine zF_callVi 51 (d2 := (d + 5)) (as := [zI (N 1)]) dX3_closeWeek_48 rfl kX3_57 iX8_countHeld (ci := 8) rfl eX8_countHeld (Nat.le_refl _) hBc4.st.1 hBc4.st.2.1 rfl rfl (Nat.le_of_ble_eq_true rfl) ((zt_X8_countHeld2 (g := fun s => zb (mHold N s)) hBc4 (by omega) (by omega) fun s hs => (a4 s hs).2.2.2)) ?_
  refine zF_callV 54 (d2 := (d + 5)) (as := [zI (N 3), zI 4, zI (zsum (fun s => zb (mHold N s)) (nS N))]) dX3_closeWeek_51 rfl kX3_61 iX8_writeLog (ci := 8) rfl eX8_writeLog (Nat.le_refl _) hBc4.st.1 hBc4.st.2.1 rfl rfl (Nat.le_of_ble_eq_true rfl) (zE.mono (zt_X8_writeLog hBc4 (by omega) (by omega) (by omega) (by omega)) fun ro σx5 hh5 => ?_)
  obtain ⟨er5, es5⟩ := hh5
  subst er5
  subst es5
  refine ⟨rfl, ?_⟩
  refine zF_aload_n 55 dX3_closeWeek_54 rfl rfl ?_
  refine zF_getR 58 dX3_closeWeek_55 rfl gX3_19 hCc4.1 hCc4.2.1 hCc4.2.2.2.1 ?_
  refine zF_iconst 59 dX3_closeWeek_58 rfl ?_
  refine zF_putI 62 dX3_closeWeek_59 rfl pX3_closeWeek_65 (Or.inl rfl) hBc4.st.1 hBc4.st.2.1 ?_
  refine zF_aload_n 63 dX3_closeWeek_62 rfl rfl ?_
  refine zF_getR 66 dX3_closeWeek_63 rfl gX3_19 hCc4.1 hCc4.2.1 hCc4.2.2.2.1 ?_
  refine zF_dup 67 dX3_closeWeek_66 rfl rfl ?_
  refine zF_getI 70 dX3_closeWeek_67 rfl gX3_46 (by decide) (by decide) hBc4.st.1 hBc4.st.2.1 (zsi_F (by decide) (zsi_N (fun e => absurd (hB.inj _ _ e) (by decide)) ((congrFun (e4 200 (by omega)) _).trans hR.s.1.1))) ?_
  refine zF_iconst 71 dX3_closeWeek_70 rfl ?_
  refine zF_iadd 72 dX3_closeWeek_71 rfl ?_
  refine zF_putI 75 dX3_closeWeek_72 rfl pX3_closeWeek_46 (Or.inl rfl) hBc4.st.1 hBc4.st.2.1 ?_
  refine zF_aload_n 76 dX3_closeWeek_75 rfl rfl ?_
  have f7 : zFr (PCw B) σa4 (zsi (zsi (zsi σa4 (B 215) ((N 3) % 20 * 5 + 4) (zsum (fun s => zb (mHold N s)) (nS N))) (B 200) ((1 : Nat) : Int) 0) (B 200) ((0 : Nat) : Int) ((N 3) + 1)) := zFr_si (Or.inl ⟨200, by omega, by omega, rfl⟩) (zFr_si (Or.inl ⟨200, by omega, by omega, rfl⟩) (zFr_si (Or.inl ⟨215, by omega, by omega, rfl⟩) zFr.rf))
  have hB7 := cM_fr hBc4 f7
  have hC7 := cCl_fr hCc4 f7
  refine zF_callV 79 (d2 := (d + 5)) (as := []) dX3_closeWeek_76 rfl kX3_68 iX3_ageFilms (ci := 3) rfl eX3_ageFilms (Nat.le_refl _) hCc4.1 hCc4.2.1 rfl rfl (Nat.le_of_ble_eq_true rfl) (zE.mono (zt_X3_ageFilms hB7 hC7 hV ((zsi_N (fun e => absurd (hB.inj _ _ e) (by decide)) (zsi_N (fun e => absurd (hB.inj _ _ e) (by decide)) (zsi_N (fun e => absurd (hB.inj _ _ e) (by decide)) rfl))).trans ((congrFun (e4 100 (by omega)) _).trans hR.c.1.2.2)) (fun f a b => ((zsi_N (fun e => absurd (hB.inj _ _ e) (by decide)) (zsi_N (fun e => absurd (hB.inj _ _ e) (by decide)) (zsi_N (fun e => absurd (hB.inj _ _ e) (by decide)) rfl))).trans ((congrFun (e4 109 (by omega)) _).trans (hR.c.2.2.2 f a b).2.1))) (fun f a b => ((zsi_N (fun e => absurd (hB.inj _ _ e) (by decide)) (zsi_N (fun e => absurd (hB.inj _ _ e) (by decide)) (zsi_N (fun e => absurd (hB.inj _ _ e) (by decide)) rfl))).trans ((congrFun (e41 210 (by omega)) _).trans ((a3.2 f a b).trans (if_neg (by omega)))))) (fun f a b => ((zsi_N (fun e => absurd (hB.inj _ _ e) (by decide)) (zsi_N (fun e => absurd (hB.inj _ _ e) (by decide)) (zsi_N (fun e => absurd (hB.inj _ _ e) (by decide)) rfl))).trans ((congrFun (e41 211 (by omega)) _).trans ((congrFun (PCl_n hB.inj m3.1 (by omega)) _).trans (hR.s.2.2.2.1 f a b).2.1))))) fun ro σa6 hh6 => ?_)
  obtain ⟨er6, fr6, p6⟩ := hh6
  subst er6
  refine ⟨fr6.1, ?_⟩
  show zF G mX3_closeWeek (d + 6) 79 [(1, zI (cAllN N (nS N))), (0, zR (B 500))] [] σa6 _
  refine zF_iload_n 80 dX3_closeWeek_79 rfl rfl ?_
  exact zF_ireturn dX3_closeWeek_80 rfl ((by
      have q := cw_end hV hB.inj hR h3 f1 a1 f2 a2 f3 a3 f4 a4 fr6 p6 rfl rfl
      exact ⟨congrArg (fun z => Sum.inl (some (zI z))) (if_pos rfl).symm, q.1, q.2⟩))
theorem zt_X11_close {N : Int → Int} {H : Int → Int → Int} {u T : Int} (hG : zGd G) (hO : cO σ B) (hH : cHs σ B) (hc : cST (N, H, u) σ B) (g : gS T (N, H, u)) (hC : cCl σ B) (hf : fe N) (hT : T ≤ 20000) : zE G mX11_close (d + 9) [zR (B 0)] σ (copM 0 (oClV N) (oClS (N, H, u)) B σ) := by
  refine zE_of rfl (by simp [zcat]) (Nat.le_of_ble_eq_true rfl) ?_
  show zF G mX11_close (d + 9) 0 [(0, zR (B 0))] [] σ _
  have hB := hO.1
  have gn : gN T N := g.n
  obtain ⟨hR, nx, hr⟩ := hc
  have hR : cR N σ B := hR
  have hr : cHr H u nx σ B := hr
  have hV : mV N := g.n.v
  have hW : mW N := g.n.w
  have hX : mX N := g.n.x
  have hQ : mQ N := g.n.q
  have hb := hV.b
  have hn := hV.n
  have ha : amR N := fun k => clA_b hV hW hf gn.m hT k
  refine zF_aload_n 1 dX11_close_0 rfl rfl ?_
  refine zF_getR 4 dX11_close_1 rfl gX11_34 hO.2.1 hO.2.2.1 hO.2.2.2.2.2.2.1 ?_
  refine zF_getI 7 dX11_close_4 rfl gX11_161 (by decide) (by decide) hB.st.1 hB.st.2.1 hR.s.1.1 ?_
  refine zF_bipush 9 dX11_close_7 rfl (by decide) ?_
  refine zF_icmp_lt 15 12 dX11_close_9 rfl rfl (by first | decide | assumption | exact hb _ | exact zb_rg _ | (constructor <;> omega)) (by first | decide | assumption | exact hb _ | exact zb_rg _ | (constructor <;> omega)) (fun c1 => ?_) (fun c1 => ?_)
  · refine zF_aload_n 16 dX11_close_15 rfl rfl ?_
    refine zF_getR 19 dX11_close_16 rfl gX11_66 hO.2.1 hO.2.2.1 hO.2.2.2.2.2.2.2.2.2.2.1 ?_
    refine zF_aload_n 20 dX11_close_19 rfl rfl ?_
    refine zF_getR 23 dX11_close_20 rfl gX11_34 hO.2.1 hO.2.2.1 hO.2.2.2.2.2.2.1 ?_
    refine zF_callV 26 (d2 := (d + 8)) (as := [zR (B 200)]) dX11_close_23 rfl kX11_335 iX4_record (ci := 4) rfl eX4_record (Nat.le_refl _) hH.1 hH.2.1 rfl rfl (Nat.le_of_ble_eq_true rfl) (zE.mono (zt_X4_record hB hH hV hR.2.1 hr) fun ro σa1 hh1 => ?_)
    obtain ⟨er1, fr1, p1⟩ := hh1
    subst er1
    refine ⟨fr1.1, ?_⟩
    show zF G mX11_close (d + 9) 26 [(0, zR (B 0))] [] σa1 _
    have hBr := cM_fr hB fr1
    have hRr := cR_rg hB (cHm_rg fr1) (by omega) hR
    have hHr := cHs_fr hH fr1
    have hOr := cO_fr hO fr1
    have hCr := cCl_fr hC fr1
    refine zF_aload_n 27 dX11_close_26 rfl rfl ?_
    refine zF_getR 30 dX11_close_27 rfl gX11_59 hOr.2.1 hOr.2.2.1 hOr.2.2.2.2.2.2.2.2.2.1 ?_
    refine zF_callV 33 (d2 := (d + 8)) (as := []) dX11_close_30 rfl kX11_351 iX3_closeWeek (ci := 3) rfl eX3_closeWeek (Nat.le_refl _) hCr.1 hCr.2.1 rfl rfl (Nat.le_of_ble_eq_true rfl) (zE.mono (zt_X3_closeWeek hBr hCr hRr hV hX hW hQ ha (by omega)) fun ro σa2 hh2 => ?_)
    obtain ⟨er2, fr2, p2⟩ := hh2
    subst er2
    refine ⟨fr2.1, ?_⟩
    show zF G mX11_close (d + 9) 33 [(0, zR (B 0))] [zI (clA N 0)] σa2 _
    have hB3 := cM_fr hBr fr2
    have hO3 := cO_fr hOr fr2
    have gc := gN_cl gn hf (by omega) hT
    have fA : zFr (cMu B) σa1 σa2 := fr2.wk fun _ _ q => q.elim (fun ⟨i, a, b, e⟩ => Or.inl ⟨⟨i, by omega, by omega, e⟩, fun z => by have := hB.inj _ _ (e.symm.trans z.1); omega⟩) (fun q => Or.inl ⟨⟨503, by omega, by omega, q⟩, fun z => by have := hB.inj _ _ (q.symm.trans z.1); omega⟩)
    have fA2 : zFr (zRg 200 600 B) σa1 σa2 := fr2.wk fun _ _ q => q.elim (fun ⟨i, a, b, e⟩ => ⟨i, by omega, by omega, e⟩) (fun q => ⟨503, by omega, by omega, q⟩)
    have e10x : ∀ k, 100 ≤ k → k < 200 → zia σa2 (B k) = zia σa1 (B k) := fun k h1 h2 => fA2.rg hB.inj (by omega)
    have hR0 : cR0 (clN N) σa2 B := ⟨cRc_cE hV clN_cE (cRc_congr (fun k hk => e10x _ (by omega) (by omega)) hRr.1), p2⟩
    refine zF_istore_n 34 (ls' := [(1, zI (clA N 0)), (0, zR (B 0))]) dX11_close_33 rfl (by decide) rfl ?_
    refine zF_aload_n 35 dX11_close_34 rfl rfl ?_
    refine zF_getR 38 dX11_close_35 rfl gX11_43 hO3.2.1 hO3.2.2.1 hO3.2.2.2.2.2.2.2.1 ?_
    refine zF_callV 41 (d2 := (d + 8)) (as := []) dX11_close_38 rfl kX11_136 iX10_refresh (ci := 10) rfl eX10_refresh (Nat.le_refl _) hB3.wk.1 hB3.wk.2.1 rfl rfl (Nat.le_of_ble_eq_true rfl) (zE.mono (zt_X10_refresh (σ := σa2) (N := clN N) hB3 hR0 gc.v gc.x gc.w) fun ro σa3 hh3 => ?_)
    obtain ⟨er3, fr3, p3⟩ := hh3
    subst er3
    refine ⟨fr3.1, ?_⟩
    show zF G mX11_close (d + 9) 41 [(1, zI (clA N 0)), (0, zR (B 0))] [] σa3 _
    refine zF_iload_n 42 dX11_close_41 rfl rfl ?_
    exact zF_ireturn dX11_close_42 rfl (copMR ((cHm_mu fr1).tr (fA.tr (zRg_mu hB.inj fr3 (by omega)))) rfl ((if_neg (by omega)).symm) (S' := sRec (N, H, u) (clN N)) (if_neg (by show ¬ N 3 = 60; omega)) ⟨p3, _, cHr_rg hB.inj fr3 (by omega) (cHr_rg hB.inj fA2 (by omega) p1)⟩)
  · refine zF_bipush 14 dX11_close_12 rfl (by decide) ?_
    exact zF_ireturn dX11_close_14 rfl (copMR zFr.rf rfl ((if_pos (by omega)).symm) (S' := (N, H, u)) (if_pos (by show N 3 = 60; omega)) ⟨hR, nx, hr⟩)
end ZC17

/-! the class: the best program found -/
section ZC13
variable {G : zG} {d : Nat} {σ : zMem} {B : Nat → Nat} {N : Int → Int}
def updI (t : Int → Int) (k : Nat) (v : Int) : Int → Int := fun i => if i = k then v else t i
theorem updI_at (t : Int → Int) (k : Nat) (v : Int) : updI t k v k = v := if_pos rfl
theorem updI_o {t : Int → Int} {k i : Nat} {v : Int} (h : i ≠ k) : updI t k v i = t i := if_neg (by omega)
theorem cPv_ch {h : Int} {lim ch : Int → Int} {k : Nat} {f : Int} {σ2 : zMem} (hj : ∀ i j, B i = B j → i = j) (v : cPv N h lim ch σ B) (fr : zFr (fun y j => (y = B 406 ∧ j = (k : Int)) ∨ y = B 409 ∨ y = B 410) σ σ2) : cPv N h lim (updI ch k f) (zsi σ2 (B 406) (k : Int) f) B := by
  obtain ⟨a, b, c, e, g, i⟩ := v
  have ne : ∀ {i j : Nat}, i ≠ j → B i ≠ B j := fun h e => h (hj _ _ e)
  have no : ∀ {i : Nat} {j : Int}, i ≠ 406 → i ≠ 409 → i ≠ 410 → ¬ ((B i = B 406 ∧ j = (k : Int)) ∨ B i = B 409 ∨ B i = B 410) := fun h1 h2 h3 q => q.elim (fun q => ne h1 q.1) (fun q => q.elim (ne h2) (ne h3))
  have t : ∀ {i : Nat} {j x : Int}, i ≠ 406 → i ≠ 409 → i ≠ 410 → zia σ (B i) j = x → zia (zsi σ2 (B 406) (k : Int) f) (B i) j = x := fun h1 h2 h3 e => zsi_N (ne h1) ((fr.2.2.2.2.2 _ _ (no h1 h2 h3)).trans e)
  refine ⟨t (by decide) (by decide) (by decide) a, t (by decide) (by decide) (by decide) b, fun k hk => t (by decide) (by decide) (by decide) (c k hk), fun x hx => ?_, fun x x0 x1 => t (by decide) (by decide) (by decide) (g x x0 x1), fun m hm => t (by decide) (by decide) (by decide) (i m hm)⟩
  rw [zia_si]
  by_cases z : x = k
  · subst z; rw [if_pos ⟨rfl, rfl⟩, updI_at]
  · rw [if_neg (fun q => z (by have := q.2; omega)), updI_o z]
    exact (fr.2.2.2.2.2 _ _ (fun q => q.elim (fun q => z (by have := q.2; omega)) (fun q => q.elim (ne (by decide)) (ne (by decide))))).trans (e x hx)
theorem pVc_upd {F : Int} {ch t : Int → Int} {n k : Nat} {f : Int} (hk : k < n) (hc : ch k = -2) (f0 : -1 ≤ f) (f1 : f < F) : pVc F (updI ch k f) n t ↔ pVc F ch n t ∧ t k = f := by
  constructor
  · intro v
    refine ⟨fun i hi => ?_, ?_⟩
    · have q := v i hi
      by_cases e : i = k
      · subst e
        rw [updI_at] at q
        refine ⟨fun _ => ?_, fun z => absurd hc z⟩
        have := q.2 (by omega)
        omega
      · rw [updI_o e] at q; exact q
    · have q := v k hk
      rw [updI_at] at q
      exact q.2 (by omega)
  · intro ⟨v, e⟩ i hi
    by_cases z : i = k
    · subst z
      rw [updI_at]
      exact ⟨fun w => by omega, fun _ => e⟩
    · rw [updI_o z]; exact v i hi
/-- the first places have been settled -/
def stI (N : Int → Int) (h : Int) (lim : Int → Int) (b : Int) (ch : Int → Int) (x : Nat) : Prop :=
  (∀ k : Nat, k < x → (ch0 N h k = -2 → -1 ≤ ch k ∧ ch k < N 2) ∧ (ch0 N h k ≠ -2 → ch k = ch0 N h k)) ∧ (∀ k : Nat, x ≤ k → ch k = ch0 N h k) ∧ (∃ t, pVc (N 2) ch (nn N h) t ∧ pG N h lim t = b) ∧ (∀ t, pVc (N 2) ch (nn N h) t → pG N h lim t ≤ b) ∧
  ∀ u, pVc (N 2) (ch0 N h) (nn N h) u → pG N h lim u = b → (∀ k : Nat, k < x → ch k = u k) ∨ ∃ k : Nat, k < x ∧ (∀ i : Nat, i < k → ch i = u i) ∧ ch k < u k
theorem stI_0 {h : Int} {lim : Int → Int} {b : Int} (m : pMax N h lim (ch0 N h) b) : stI N h lim b (ch0 N h) 0 := ⟨fun k hk => absurd hk (Nat.not_lt_zero _), fun k _ => rfl, m.1, m.2, fun u _ _ => Or.inl fun k hk => absurd hk (Nat.not_lt_zero _)⟩
theorem stI_fix {h : Int} {lim : Int → Int} {b : Int} {ch : Int → Int} {x : Nat} (s : stI N h lim b ch x) (hx : x < nn N h) (c : ch x ≠ -2) : stI N h lim b ch (x + 1) := by
  obtain ⟨s1, s2, s3, s4, s5⟩ := s
  have e := s2 x (Nat.le_refl _)
  refine ⟨fun k hk => ?_, fun k hk => s2 k (by omega), s3, s4, fun u hu hg => ?_⟩
  · by_cases z : k = x
    · subst z; exact ⟨fun w => absurd (e.trans w) c, fun _ => e⟩
    · exact s1 k (by omega)
  · rcases s5 u hu hg with w | ⟨k, k1, k2, k3⟩
    · refine Or.inl fun k hk => ?_
      by_cases z : k = x
      · subst z
        exact e.trans ((hu k hx).2 (by rw [← e]; exact c)).symm
      · exact w k (by omega)
    · exact Or.inr ⟨k, by omega, k2, k3⟩
theorem stI_set {h : Int} {lim : Int → Int} {b : Int} {ch : Int → Int} {x : Nat} {f : Int} (s : stI N h lim b ch x) (hx : x < nn N h) (c : ch x = -2) (f0 : -1 ≤ f) (f1 : f < N 2) (ex : ∃ t, pVc (N 2) (updI ch x f) (nn N h) t ∧ pG N h lim t = b) (le : ∀ t, pVc (N 2) ch (nn N h) t → pG N h lim t = b → f ≤ t x) : stI N h lim b (updI ch x f) (x + 1) := by
  obtain ⟨s1, s2, s3, s4, s5⟩ := s
  have e := s2 x (Nat.le_refl _)
  refine ⟨fun k hk => ?_, fun k hk => by rw [updI_o (by omega)]; exact s2 k (by omega), ex, fun t ht => s4 t ((pVc_upd hx c f0 f1).mp ht).1, fun u hu hg => ?_⟩
  · by_cases z : k = x
    · subst z; rw [updI_at]; exact ⟨fun _ => ⟨f0, f1⟩, fun w => absurd (e.symm.trans c) w⟩
    · rw [updI_o z]; exact s1 k (by omega)
  · rcases s5 u hu hg with w | ⟨k, k1, k2, k3⟩
    · have hu2 : pVc (N 2) ch (nn N h) u := fun k hk => by
        by_cases z : k < x
        · rw [w k z]
          have q := hu k hk
          refine ⟨fun y => ?_, fun _ => rfl⟩
          have := s1 k z
          rw [w k z] at this
          by_cases c0 : ch0 N h k = -2
          · have := this.1 c0; omega
          · rw [q.2 c0] at y; exact absurd y c0
        · rw [s2 k (by omega)]; exact hu k hk
      have l := le u hu2 hg
      by_cases z : f = u x
      · refine Or.inl fun k hk => ?_
        by_cases y : k = x
        · subst y; rw [updI_at]; exact z
        · rw [updI_o y]; exact w k (by omega)
      · exact Or.inr ⟨x, by omega, fun i hi => by rw [updI_o (by omega)]; exact w i hi, by rw [updI_at]; omega⟩
    · exact Or.inr ⟨k, by omega, fun i hi => by rw [updI_o (by omega)]; exact k2 i hi, by rw [updI_o (by omega)]; exact k3⟩
theorem stI_end (hF : 0 ≤ N 2) {h : Int} {lim : Int → Int} {b : Int} {ch : Int → Int} (m : pMax N h lim (ch0 N h) b) (s : stI N h lim b ch (nn N h)) : pLx N h lim (ch0 N h) ch := by
  obtain ⟨s1, s2, s3, s4, s5⟩ := s
  have v : pVc (N 2) (ch0 N h) (nn N h) ch := fun k hk => s1 k hk
  have eg : pG N h lim ch = b := by
    obtain ⟨t, t1, t2⟩ := s3
    rw [← t2]
    refine pG_congr fun k hk => ?_
    refine ((t1 k hk).2 ?_).symm
    intro z
    have := s1 k hk
    by_cases c0 : ch0 N h k = -2
    · have := this.1 c0; omega
    · exact c0 ((this.2 c0).symm.trans z)
  refine ⟨v, fun t ht => by rw [eg]; exact m.2 t ht, fun u hu hg => ?_⟩
  rcases s5 u hu (hg.trans eg) with w | ⟨k, k1, k2, k3⟩
  · rw [rR_congr w]; exact Int.le_refl _
  · exact Int.le_of_lt (rR_lt hF k1 v hu k2 k3)
theorem stI_chr (hV : mV N) {h : Int} {lim : Int → Int} {b : Int} {ch : Int → Int} {x : Nat} (s : stI N h lim b ch x) : ∀ k : Nat, k < nn N h → -2 ≤ ch k ∧ ch k < 6 := fun k hk => by
  have hn := hV.n
  rcases ch0_b hV (h := h) (k := (k : Int)) (by omega) (by omega) with ⟨_, b, c, e⟩ | ⟨_, b⟩
  · by_cases z : k < x
    · rw [(s.1 k z).2 (by omega)]; omega
    · rw [s.2.1 k (by omega)]; omega
  · by_cases z : k < x
    · have := (s.1 k z).1 b; omega
    · rw [s.2.1 k (by omega)]; omega
def PGG (B : Nat → Nat) (h : Nat) (j : Int) : Prop := (∃ i, h = B i ∧ 400 ≤ i ∧ i ≤ 410) ∧ ¬ (h = B 408 ∧ j = 0)
theorem PGG_sc {σ2 : zMem} (f : zFr (PGG B) σ σ2) : zFr (cSc B) σ σ2 := f.wk fun _ _ ⟨⟨i, a, b, c⟩, e⟩ => ⟨⟨i, a, Or.inr (by omega)⟩, e⟩
theorem PGG_cR {σ2 : zMem} (hB : cM σ B) (f : zFr (PGG B) σ σ2) (h : cR N σ B) : cR N σ2 B := cR_sc hB (PGG_sc f) h
theorem lmP_r (hV : mV N) {h : Int} (h0 : 0 ≤ h) (h1 : h < 4) : ∀ f, 0 ≤ f → f < N 2 → zrg (lmP N h f) := fun f f0 f1 => by
  have hn := hV.n
  have := hV.p f h f0 (by omega) (by omega) h1
  show zrg (mP N f h)
  constructor <;> omega
theorem PGG_1 {i : Nat} {j : Int} (hj : ∀ i j, B i = B j → i = j) (h : 400 ≤ i ∧ i ≤ 410) (n : i ≠ 408) : PGG B (B i) j := ⟨⟨i, rfl, h⟩, fun q => n (hj _ _ q.1)⟩
theorem PGG_se (hj : ∀ i j, B i = B j → i = j) {σ2 : zMem} (f : zFr (fun y _ => y = B 409 ∨ y = B 410) σ σ2) : zFr (PGG B) σ σ2 := f.wk fun _ _ q => q.elim (fun q => q ▸ PGG_1 hj (by decide) (by decide)) (fun q => q ▸ PGG_1 hj (by decide) (by decide))
theorem PGG_pr (hj : ∀ i j, B i = B j → i = j) {σ2 : zMem} (f : zFr (fun y j => (∃ i, y = B i ∧ (i = 400 ∨ i = 405 ∨ i = 406 ∨ i = 407 ∨ i = 408)) ∧ ¬ (y = B 408 ∧ j = 0)) σ σ2) : zFr (PGG B) σ σ2 := f.wk fun _ _ ⟨⟨i, e, c⟩, n⟩ => ⟨⟨i, e, by omega⟩, n⟩
theorem lim_r {h : Int} {ch : Int → Int} {b : Int} {lim : Int → Int} {k : Nat} {f : Int} {n : Nat} (chr : ∀ k : Nat, k < n → zrg (ch k)) (f0 : -1 ≤ f) (f1 : f < 10) : ∀ i : Nat, i < n → zrg (updI ch k f i) := fun i hi => by
  by_cases z : i = k
  · subst z; rw [updI_at]; constructor <;> omega
  · rw [updI_o z]; exact chr i hi
theorem pMax_le {h b g f : Int} {lim ch : Int → Int} {k : Nat} (hk : k < nn N h) (hc : ch k = -2) (f0 : -1 ≤ f) (f1 : f < N 2) (m : ∀ t, pVc (N 2) ch (nn N h) t → pG N h lim t ≤ b) (q : pMax N h lim (updI ch k f) g) (ne : g ≠ b) : ∀ t, pVc (N 2) ch (nn N h) t → pG N h lim t = b → t k ≠ f := fun t ht hg e => by
  have a := q.2 t ((pVc_upd hk hc f0 f1).mpr ⟨ht, e⟩)
  obtain ⟨⟨u, u1, u2⟩, _⟩ := q
  have c := m u ((pVc_upd hk hc f0 f1).mp u1).1
  omega
theorem updI_2 (t : Int → Int) (k : Nat) (a b : Int) : updI (updI t k a) k b = updI t k b := funext fun i => by
  unfold updI
  by_cases z : i = (k : Int)
  · rw [if_pos z, if_pos z]
  · rw [if_neg z, if_neg z, if_neg z]
theorem updI_s (t : Int → Int) (k : Nat) : updI t k (t k) = t := funext fun i => by
  unfold updI
  by_cases z : i = (k : Int)
  · rw [if_pos z, z]
  · rw [if_neg z]
theorem rk_eq {h s : Int} {x x0 : Nat} (hx : x < nn N h) (hx0 : x0 < nn N h) (a : rk N h x = s) (b : rk N h x0 = s) : x = x0 := Decidable.byContradiction fun e => rk_ne N h hx hx0 e (a.trans b.symm)
theorem zt_X5_greatestGain {h : Int} (hB : cM σ B) (hP : cPr σ B) (hR : cR N σ B) (hV : mV N) (hQ : mC4 N) (h0 : 0 ≤ h) (h1 : h < N 0) (hr0 : zia σ (B 408) 0 = 0) : zE G mX5_greatestGain (d + 6) [zR (B 400), zI h] σ (fun ro σ1 => ∃ g, ro = .inl (some (zI g)) ∧ zFr (PGG B) σ σ1 ∧ cPv N h (lmP N h) (ch0 N h) σ1 B ∧ pMax N h (lmP N h) (ch0 N h) g ∧ -1 ≤ g ∧ g ≤ 50000000) := by
  refine zE_of rfl (by simp [zcat]) (Nat.le_of_ble_eq_true rfl) ?_
  show zF G mX5_greatestGain (d + 6) 0 [(0, zR (B 400)), (1, zI h)] [] σ _
  have hb := hV.b
  have hn := hV.n
  have hnn := nn_eq hQ h
  have hf0 := nF_eq hV
  refine zF_aload_n 1 dX5_greatestGain_0 rfl rfl ?_
  refine zF_iload_n 2 dX5_greatestGain_1 rfl rfl ?_
  refine zF_callV 5 (d2 := (d + 5)) (as := [zI h]) dX5_greatestGain_2 rfl kX5_51 iX5_prepare (ci := 5) rfl eX5_prepare (Nat.le_refl _) hP.1 hP.2.1 rfl rfl (Nat.le_of_ble_eq_true rfl) (zE.mono (zt_X5_prepare hB hP hR hV hQ h0 h1 hr0) fun ro σa1 hh1 => ?_)
  obtain ⟨er1, fr1, p1⟩ := hh1
  subst er1
  refine ⟨fr1.1, ?_⟩
  show zF G mX5_greatestGain (d + 6) 5 [(0, zR (B 400)), (1, zI h)] [] σa1 _
  have fp := PGG_pr hB.inj fr1
  have hB2 := cM_fr hB fp
  have hP2 := cPr_fr hP fp
  have hR2 := PGG_cR hB fp hR
  refine zF_aload_n 6 dX5_greatestGain_5 rfl rfl ?_
  refine zF_callV 9 (d2 := (d + 5)) (as := []) dX5_greatestGain_6 rfl kX5_55 iX5_search (ci := 5) rfl eX5_search (Nat.le_refl _) hP2.1 hP2.2.1 rfl rfl (Nat.le_of_ble_eq_true rfl) (zE.mono (zt_X5_search hB2 hP2 hR2 hV hQ h0 h1 p1 (fun k hk => by have := ch0_b hV (h := h) (k := (k : Int)) (by omega) (by omega); constructor <;> omega) (lmP_r hV h0 (by omega))) fun ro σg2 hh2 => ?_)
  obtain ⟨g2, er2, fr2, pm2, gl2, gu2⟩ := hh2
  subst er2
  refine ⟨fr2.1, ?_⟩
  have fs2 := PGG_se hB.inj fr2
  exact zF_ireturn dX5_greatestGain_9 rfl (⟨g2, rfl, fp.tr fs2, cPv_fr p1 fr2 (fun j => ⟨fun q => q.elim (fun q => absurd (hB.inj _ _ q) (by decide)) (fun q => absurd (hB.inj _ _ q) (by decide)), fun q => q.elim (fun q => absurd (hB.inj _ _ q) (by decide)) (fun q => absurd (hB.inj _ _ q) (by decide)), fun q => q.elim (fun q => absurd (hB.inj _ _ q) (by decide)) (fun q => absurd (hB.inj _ _ q) (by decide)), fun q => q.elim (fun q => absurd (hB.inj _ _ q) (by decide)) (fun q => absurd (hB.inj _ _ q) (by decide)), fun q => q.elim (fun q => absurd (hB.inj _ _ q) (by decide)) (fun q => absurd (hB.inj _ _ q) (by decide))⟩), pm2, gl2, gu2⟩)
theorem zt_X5_settle {h : Int} {lim ch : Int → Int} {b : Int} {pl : Nat} (hB : cM σ B) (hP : cPr σ B) (hR : cR N σ B) (hV : mV N) (hQ : mC4 N) (h0 : 0 ≤ h) (h1 : h < N 0) (v : cPv N h lim ch σ B) (chr : ∀ k : Nat, k < nn N h → zrg (ch k)) (lr : ∀ f, 0 ≤ f → f < N 2 → zrg (lim f)) (hpl : pl < nn N h) (hc : ch pl = -2) (mx : (∃ t, pVc (N 2) ch (nn N h) t ∧ pG N h lim t = b) ∧ ∀ t, pVc (N 2) ch (nn N h) t → pG N h lim t ≤ b) (b0 : -1 ≤ b) (b1 : b ≤ 50000000) : zE G mX5_settle (d + 6) [zR (B 400), zI ((pl : Nat) : Int), zI b] σ (fun ro σ1 => ro = .inl none ∧ zFr (PGG B) σ σ1 ∧ ∃ f, -1 ≤ f ∧ f < N 2 ∧ cPv N h lim (updI ch pl f) σ1 B ∧ (∃ t, pVc (N 2) (updI ch pl f) (nn N h) t ∧ pG N h lim t = b) ∧ ∀ t, pVc (N 2) ch (nn N h) t → pG N h lim t = b → f ≤ t pl) := by
  refine zE_of rfl (by simp [zcat]) (Nat.le_of_ble_eq_true rfl) ?_
  show zF G mX5_settle (d + 6) 0 [(0, zR (B 400)), (1, zI ((pl : Nat) : Int)), (2, zI b)] [] σ _
  have hb := hV.b
  have hn := hV.n
  have hnn := nn_eq hQ h
  have hf0 := nF_eq hV
  refine zF_iconst 1 dX5_settle_0 rfl ?_
  refine zF_istore_n 2 (ls' := [(3, zI (-1)), (0, zR (B 400)), (1, zI ((pl : Nat) : Int)), (2, zI b)]) dX5_settle_1 rfl (by decide) rfl ?_
  refine zF_locs (ls' := [(3, zI (((0 : Nat) : Int) - 1)), (0, zR (B 400)), (1, zI ((pl : Nat) : Int)), (2, zI b)]) ⟨zlI rfl (by first | rfl | omega | (push_cast; omega) | exact congrArg (_ + ·) (zbT (by assumption)) | exact congrArg (_ + ·) (zbF (by assumption)) | exact congrArg (_ + ·) (zbT (by omega)) | exact congrArg (_ + ·) (zbF (by omega)) | exact congrArg (_ + ·) (if_pos (by omega)).symm | exact congrArg (_ + ·) (if_neg (by omega)).symm | exact (if_pos (by omega)).symm | exact (if_neg (by omega)).symm | exact zsub_s (if_pos (by omega)).symm | exact zsub_s0 (if_neg (by omega)).symm | exact zadd0 (if_neg (by omega)).symm | exact zadd0 (zbF (by omega)) | exact (Int.sub_zero _).symm), rfl, rfl, rfl, trivial⟩ ?_
  refine zF_while (X := Int × Nat) (fun x => nF N + 1 - x.2) (fun x σ2 => x.2 ≤ nF N + 1 ∧ zFr (PGG B) σ σ2 ∧ cPv N h lim (updI ch pl x.1) σ2 B ∧ ∀ t, pVc (N 2) ch (nn N h) t → pG N h lim t = b → (x.2 : Int) - 1 ≤ t pl) (fun x => [(3, zI (((x.2 : Nat) : Int) - 1)), (0, zR (B 400)), (1, zI ((pl : Nat) : Int)), (2, zI b)]) ?_ ((ch pl), 0) σ (⟨Nat.zero_le _, zFr.rf, by show cPv N h lim (updI ch pl (ch pl)) σ B; rw [updI_s]; exact v, fun t ht hg => by have := (ht pl hpl).1 hc; show ((0 : Nat) : Int) - 1 ≤ t pl; omega⟩)
  intro ⟨w, x⟩ σ2 hI2 ih2
  show zF G mX5_settle (d + 6) 2 [(3, zI (((x : Nat) : Int) - 1)), (0, zR (B 400)), (1, zI ((pl : Nat) : Int)), (2, zI b)] [] σ2 _
  obtain ⟨hx, fr2, v2, l2⟩ := hI2
  dsimp only at hx v2 l2
  have hB2 := cM_fr hB fr2
  have hP2 := cPr_fr hP fr2
  have hR2 := PGG_cR hB fr2 hR
  refine zF_iload_n 3 dX5_settle_2 rfl rfl ?_
  refine zF_aload_n 4 dX5_settle_3 rfl rfl ?_
  refine zF_getR 7 dX5_settle_4 rfl gX5_39 hP2.1 hP2.2.1 hP2.2.2.1 ?_
  refine zF_getI 10 dX5_settle_7 rfl gX5_71 (by decide) (by decide) hB2.ch.1 hB2.ch.2.1 hR2.c.1.2.2 ?_
  refine zF_icmp_ge 35 13 dX5_settle_10 rfl rfl (by first | decide | assumption | exact hb _ | (constructor <;> omega)) (by first | decide | assumption | exact hb _ | (constructor <;> omega)) (fun c1 => ?_) (fun c1 => ?_)
  · exact zF_return dX5_settle_35 rfl (by
        exfalso
        obtain ⟨⟨t, t1, t2⟩, _⟩ := mx
        have a := l2 t t1 t2
        have c := (t1 pl hpl).1 hc
        omega)
  · refine zF_aload_n 14 dX5_settle_13 rfl rfl ?_
    refine zF_getR 17 dX5_settle_14 rfl gX5_15 hP2.1 hP2.2.1 (cB_406 hP2).1 ?_
    refine zF_iload_n 18 dX5_settle_17 rfl rfl ?_
    refine zF_iload_n 19 dX5_settle_18 rfl rfl ?_
    refine zF_iastore 20 dX5_settle_19 rfl (cB_406 hP2).2.2 (cB_406 hP2).2.1 (by omega) (by omega) ?_
    have fr3 : zFr (PGG B) σ (zsi σ2 (B 406) ((pl : Nat) : Int) (((x : Nat) : Int) - 1)) := zFr_si (PGG_1 hB.inj (by decide) (by decide)) fr2
    have hB3 := cM_fr hB fr3
    have hP3 := cPr_fr hP fr3
    have hR3 := PGG_cR hB fr3 hR
    have v3 : cPv N h lim (updI ch pl (((x : Nat) : Int) - 1)) (zsi σ2 (B 406) ((pl : Nat) : Int) (((x : Nat) : Int) - 1)) B := by
          have q := cPv_ch (k := pl) (f := (((x : Nat) : Int) - 1)) (σ := σ2) (σ2 := σ2) hB.inj v2 zFr.rf
          rw [updI_2] at q
          exact q
    refine zF_aload_n 21 dX5_settle_20 rfl rfl ?_
    refine zF_callV 24 (d2 := (d + 5)) (as := []) dX5_settle_21 rfl kX5_55 iX5_search (ci := 5) rfl eX5_search (Nat.le_refl _) hP2.1 hP2.2.1 rfl rfl (Nat.le_of_ble_eq_true rfl) (zE.mono (zt_X5_search (lim := lim) (ch := (updI ch pl (((x : Nat) : Int) - 1))) hB3 hP3 hR3 hV hQ h0 h1 v3 (lim_r (h := h) (b := b) (lim := lim) chr (by omega) (by omega)) lr) fun ro σg1 hh1 => ?_)
    obtain ⟨g1, er1, fr1, pm1, gl1, gu1⟩ := hh1
    subst er1
    refine ⟨fr1.1, ?_⟩
    have fs1 := PGG_se hB.inj fr1
    refine zF_iload_n 25 dX5_settle_24 rfl rfl ?_
    refine zF_icmp_ne 29 28 dX5_settle_25 rfl rfl (by first | decide | assumption | exact hb _ | (constructor <;> omega)) (by first | decide | assumption | exact hb _ | (constructor <;> omega)) (fun c2 => ?_) (fun c2 => ?_)
    · refine zF_iinc 32 (ls' := [(3, zI ((((x : Nat) : Int) - 1) + 1)), (0, zR (B 400)), (1, zI ((pl : Nat) : Int)), (2, zI b)]) dX5_settle_29 rfl rfl rfl (by decide) rfl ?_
      refine zF_goto 2 dX5_settle_32 rfl ?_
      exact zF_locs (ls' := [(3, zI ((((x + 1) : Nat) : Int) - 1)), (0, zR (B 400)), (1, zI ((pl : Nat) : Int)), (2, zI b)]) ⟨zlI rfl (by first | rfl | omega | (push_cast; omega) | exact congrArg (_ + ·) (zbT (by assumption)) | exact congrArg (_ + ·) (zbF (by assumption)) | exact congrArg (_ + ·) (zbT (by omega)) | exact congrArg (_ + ·) (zbF (by omega)) | exact congrArg (_ + ·) (if_pos (by omega)).symm | exact congrArg (_ + ·) (if_neg (by omega)).symm | exact (if_pos (by omega)).symm | exact (if_neg (by omega)).symm | exact zsub_s (if_pos (by omega)).symm | exact zsub_s0 (if_neg (by omega)).symm | exact zadd0 (if_neg (by omega)).symm | exact zadd0 (zbF (by omega)) | exact (Int.sub_zero _).symm), rfl, rfl, rfl, trivial⟩ (ih2 ((((x : Nat) : Int) - 1), (x + 1)) _ (by show nF N + 1 - (x + 1) < nF N + 1 - x; omega) (⟨by show x + 1 ≤ nF N + 1; omega, fr3.tr fs1, cPv_fr v3 fr1 (fun j => ⟨fun q => q.elim (fun q => absurd (hB.inj _ _ q) (by decide)) (fun q => absurd (hB.inj _ _ q) (by decide)), fun q => q.elim (fun q => absurd (hB.inj _ _ q) (by decide)) (fun q => absurd (hB.inj _ _ q) (by decide)), fun q => q.elim (fun q => absurd (hB.inj _ _ q) (by decide)) (fun q => absurd (hB.inj _ _ q) (by decide)), fun q => q.elim (fun q => absurd (hB.inj _ _ q) (by decide)) (fun q => absurd (hB.inj _ _ q) (by decide)), fun q => q.elim (fun q => absurd (hB.inj _ _ q) (by decide)) (fun q => absurd (hB.inj _ _ q) (by decide))⟩), fun t ht hg => by
          have a := l2 t ht hg
          have c := pMax_le hpl hc (by omega) (by omega) mx.2 pm1 (by omega) t ht hg
          show (((x + 1 : Nat) : Nat) : Int) - 1 ≤ t pl
          omega⟩))
    · exact zF_return dX5_settle_28 rfl (⟨rfl, fr3.tr fs1, (((x : Nat) : Int) - 1), by omega, by omega, cPv_fr v3 fr1 (fun j => ⟨fun q => q.elim (fun q => absurd (hB.inj _ _ q) (by decide)) (fun q => absurd (hB.inj _ _ q) (by decide)), fun q => q.elim (fun q => absurd (hB.inj _ _ q) (by decide)) (fun q => absurd (hB.inj _ _ q) (by decide)), fun q => q.elim (fun q => absurd (hB.inj _ _ q) (by decide)) (fun q => absurd (hB.inj _ _ q) (by decide)), fun q => q.elim (fun q => absurd (hB.inj _ _ q) (by decide)) (fun q => absurd (hB.inj _ _ q) (by decide)), fun q => q.elim (fun q => absurd (hB.inj _ _ q) (by decide)) (fun q => absurd (hB.inj _ _ q) (by decide))⟩), by have eg : g1 = b := (by omega); rw [← eg]; exact pm1.1, l2⟩)
theorem zt_X5_findBest {h : Int} (hB : cM σ B) (hP : cPr σ B) (hR : cR N σ B) (hV : mV N) (hQ : mC4 N) (h0 : 0 ≤ h) (h1 : h < N 0) (hr0 : zia σ (B 408) 0 = 0) : zE G mX5_findBest (d + 7) [zR (B 400), zI h] σ (fun ro σ1 => ro = .inl none ∧ zFr (PGG B) σ σ1 ∧ ∃ c, cPv N h (lmP N h) c σ1 B ∧ pLx N h (lmP N h) (ch0 N h) c ∧ (∃ g, pMax N h (lmP N h) (ch0 N h) g) ∧ ∀ k : Nat, k < nn N h → zrg (c k)) := by
  refine zE_of rfl (by simp [zcat]) (Nat.le_of_ble_eq_true rfl) ?_
  show zF G mX5_findBest (d + 7) 0 [(0, zR (B 400)), (1, zI h)] [] σ _
  have hb := hV.b
  have hn := hV.n
  have hnn := nn_eq hQ h
  have hf0 := nF_eq hV
  refine zF_aload_n 1 dX5_findBest_0 rfl rfl ?_
  refine zF_iload_n 2 dX5_findBest_1 rfl rfl ?_
  refine zF_callV 5 (d2 := (d + 6)) (as := [zI h]) dX5_findBest_2 rfl kX5_59 iX5_greatestGain (ci := 5) rfl eX5_greatestGain (Nat.le_refl _) hP.1 hP.2.1 rfl rfl (Nat.le_of_ble_eq_true rfl) (zE.mono (zt_X5_greatestGain hB hP hR hV hQ h0 h1 hr0) fun ro σg1 hh1 => ?_)
  obtain ⟨g1, er1, fr1, vv1, pm1, gl1, gu1⟩ := hh1
  subst er1
  refine ⟨fr1.1, ?_⟩
  refine zF_istore_n 6 (ls' := [(2, zI g1), (0, zR (B 400)), (1, zI h)]) dX5_findBest_5 rfl (by decide) rfl ?_
  refine zF_iconst 7 dX5_findBest_6 rfl ?_
  refine zF_istore_n 8 (ls' := [(3, zI 0), (2, zI g1), (0, zR (B 400)), (1, zI h)]) dX5_findBest_7 rfl (by decide) rfl ?_
  refine zF_locs (ls' := [(3, zI ((0 : Nat) : Int)), (2, zI g1), (0, zR (B 400)), (1, zI h)]) ⟨zlI rfl (by first | rfl | omega | (push_cast; omega) | exact congrArg (_ + ·) (zbT (by assumption)) | exact congrArg (_ + ·) (zbF (by assumption)) | exact congrArg (_ + ·) (zbT (by omega)) | exact congrArg (_ + ·) (zbF (by omega)) | exact congrArg (_ + ·) (if_pos (by omega)).symm | exact congrArg (_ + ·) (if_neg (by omega)).symm | exact (if_pos (by omega)).symm | exact (if_neg (by omega)).symm | exact zsub_s (if_pos (by omega)).symm | exact zsub_s0 (if_neg (by omega)).symm | exact zadd0 (if_neg (by omega)).symm | exact zadd0 (zbF (by omega)) | exact (Int.sub_zero _).symm), rfl, rfl, rfl, trivial⟩ ?_
  refine zF_while (X := (Int → Int) × Nat) (fun x => nn N h - x.2) (fun x σ2 => x.2 ≤ nn N h ∧ zFr (PGG B) σ σ2 ∧ cPv N h (lmP N h) x.1 σ2 B ∧ stI N h (lmP N h) g1 x.1 x.2) (fun x => [(3, zI ((x.2 : Nat) : Int)), (2, zI g1), (0, zR (B 400)), (1, zI h)]) ?_ ((ch0 N h), 0) σg1 (⟨Nat.zero_le _, fr1, vv1, stI_0 pm1⟩)
  intro ⟨c, x⟩ σ2 hI8 ih8
  show zF G mX5_findBest (d + 7) 8 [(3, zI ((x : Nat) : Int)), (2, zI g1), (0, zR (B 400)), (1, zI h)] [] σ2 _
  obtain ⟨hx, frs, v2, s2⟩ := hI8
  dsimp only at hx v2 s2
  have hB2 := cM_fr hB frs
  have hP2 := cPr_fr hP frs
  have hR2 := PGG_cR hB frs hR
  have chr2 : ∀ k : Nat, k < nn N h → zrg (c k) := fun k hk => by have := stI_chr hV s2 k hk; constructor <;> omega
  refine zF_iload_n 9 dX5_findBest_8 rfl rfl ?_
  refine zF_aload_n 10 dX5_findBest_9 rfl rfl ?_
  refine zF_getI 13 dX5_findBest_10 rfl gX5_63 (by decide) (by decide) hP2.1 hP2.2.1 v2.2.1 ?_
  refine zF_icmp_ge 39 16 dX5_findBest_13 rfl rfl (by first | decide | assumption | exact hb _ | exact chr2 x (by omega) | (constructor <;> omega)) (by first | decide | assumption | exact hb _ | exact chr2 x (by omega) | (constructor <;> omega)) (fun c1 => ?_) (fun c1 => ?_)
  · exact zF_return dX5_findBest_39 rfl (⟨rfl, frs, c, v2, stI_end (by omega) pm1 (by have ex : x = nn N h := (by omega); rw [ex] at s2; exact s2), ⟨_, pm1⟩, chr2⟩)
  · refine zF_aload_n 17 dX5_findBest_16 rfl rfl ?_
    refine zF_getR 20 dX5_findBest_17 rfl gX5_15 hP2.1 hP2.2.1 (cB_406 hP2).1 ?_
    refine zF_iload_n 21 dX5_findBest_20 rfl rfl ?_
    refine zF_iaload 22 dX5_findBest_21 rfl (cB_406 hP2).2.2 (cB_406 hP2).2.1 (by omega) (by omega) (v2.2.2.2.1 x (by omega)) ?_
    refine zF_bipush 24 dX5_findBest_22 rfl (by decide) ?_
    refine zF_icmp_ne 33 27 dX5_findBest_24 rfl rfl (by first | decide | assumption | exact hb _ | exact chr2 x (by omega) | (constructor <;> omega)) (by first | decide | assumption | exact hb _ | exact chr2 x (by omega) | (constructor <;> omega)) (fun c2 => ?_) (fun c2 => ?_)
    · refine zF_iinc 36 (ls' := [(3, zI (((x : Nat) : Int) + 1)), (2, zI g1), (0, zR (B 400)), (1, zI h)]) dX5_findBest_33 rfl rfl rfl (by decide) rfl ?_
      refine zF_goto 8 dX5_findBest_36 rfl ?_
      exact zF_locs (ls' := [(3, zI (((x + 1) : Nat) : Int)), (2, zI g1), (0, zR (B 400)), (1, zI h)]) ⟨zlI rfl (by first | rfl | omega | (push_cast; omega) | exact congrArg (_ + ·) (zbT (by assumption)) | exact congrArg (_ + ·) (zbF (by assumption)) | exact congrArg (_ + ·) (zbT (by omega)) | exact congrArg (_ + ·) (zbF (by omega)) | exact congrArg (_ + ·) (if_pos (by omega)).symm | exact congrArg (_ + ·) (if_neg (by omega)).symm | exact (if_pos (by omega)).symm | exact (if_neg (by omega)).symm | exact zsub_s (if_pos (by omega)).symm | exact zsub_s0 (if_neg (by omega)).symm | exact zadd0 (if_neg (by omega)).symm | exact zadd0 (zbF (by omega)) | exact (Int.sub_zero _).symm), rfl, rfl, rfl, trivial⟩ (ih8 (c, (x + 1)) _ (by show nn N h - (x + 1) < nn N h - x; omega) (⟨by show x + 1 ≤ nn N h; omega, frs, v2, stI_fix s2 (by omega) (by omega)⟩))
    · refine zF_aload_n 28 dX5_findBest_27 rfl rfl ?_
      refine zF_iload_n 29 dX5_findBest_28 rfl rfl ?_
      refine zF_iload_n 30 dX5_findBest_29 rfl rfl ?_
      refine zF_callV 33 (d2 := (d + 6)) (as := [zI ((x : Nat) : Int), zI g1]) dX5_findBest_30 rfl kX5_67 iX5_settle (ci := 5) rfl eX5_settle (Nat.le_refl _) hP2.1 hP2.2.1 rfl rfl (Nat.le_of_ble_eq_true rfl) (zE.mono (zt_X5_settle (pl := x) hB2 hP2 hR2 hV hQ h0 h1 v2 chr2 (lmP_r hV h0 (by omega)) (by omega) (by omega) ⟨s2.2.2.1, s2.2.2.2.1⟩ gl1 gu1) fun ro σg2 hh2 => ?_)
      obtain ⟨er2, fr2, f2, f02, f12, v2, ex2, le2⟩ := hh2
      subst er2
      refine ⟨fr2.1, ?_⟩
      refine zF_iinc 36 (ls' := [(3, zI (((x : Nat) : Int) + 1)), (2, zI g1), (0, zR (B 400)), (1, zI h)]) dX5_findBest_33 rfl rfl rfl (by decide) rfl ?_
      refine zF_goto 8 dX5_findBest_36 rfl ?_
      exact zF_locs (ls' := [(3, zI (((x + 1) : Nat) : Int)), (2, zI g1), (0, zR (B 400)), (1, zI h)]) ⟨zlI rfl (by first | rfl | omega | (push_cast; omega) | exact congrArg (_ + ·) (zbT (by assumption)) | exact congrArg (_ + ·) (zbF (by assumption)) | exact congrArg (_ + ·) (zbT (by omega)) | exact congrArg (_ + ·) (zbF (by omega)) | exact congrArg (_ + ·) (if_pos (by omega)).symm | exact congrArg (_ + ·) (if_neg (by omega)).symm | exact (if_pos (by omega)).symm | exact (if_neg (by omega)).symm | exact zsub_s (if_pos (by omega)).symm | exact zsub_s0 (if_neg (by omega)).symm | exact zadd0 (if_neg (by omega)).symm | exact zadd0 (zbF (by omega)) | exact (Int.sub_zero _).symm), rfl, rfl, rfl, trivial⟩ (ih8 ((updI c x f2), (x + 1)) _ (by show nn N h - (x + 1) < nn N h - x; omega) (⟨by show x + 1 ≤ nn N h; omega, frs.tr fr2, v2, stI_set s2 (by omega) (by omega) f02 f12 ex2 le2⟩))
theorem zt_X5_filmFor {h : Int} {lim ch : Int → Int} {s : Int} {x0 : Nat} (hB : cM σ B) (hP : cPr σ B) (hR : cR N σ B) (hV : mV N) (hQ : mC4 N) (h0 : 0 ≤ h) (h1 : h < N 0) (v : cPv N h lim ch σ B) (chr : ∀ k : Nat, k < nn N h → zrg (ch k)) (hx0 : x0 < nn N h) (hr : rk N h x0 = s) (zs : zrg s) : zP1 G mX5_filmFor d [zR (B 400), zI s] σ (ch x0) := by
  refine zE_of rfl (by simp [zcat]) (Nat.le_of_ble_eq_true rfl) ?_
  show zF G mX5_filmFor d 0 [(0, zR (B 400)), (1, zI s)] [] σ _
  have hb := hV.b
  have hn := hV.n
  have hnn := nn_eq hQ h
  have hf0 := nF_eq hV
  refine zF_iconst 1 dX5_filmFor_0 rfl ?_
  refine zF_istore_n 2 (ls' := [(2, zI 0), (0, zR (B 400)), (1, zI s)]) dX5_filmFor_1 rfl (by decide) rfl ?_
  refine zF_locs (ls' := [(2, zI ((0 : Nat) : Int)), (0, zR (B 400)), (1, zI s)]) ⟨zlI rfl (by first | rfl | omega | (push_cast; omega) | exact congrArg (_ + ·) (zbT (by assumption)) | exact congrArg (_ + ·) (zbF (by assumption)) | exact congrArg (_ + ·) (zbT (by omega)) | exact congrArg (_ + ·) (zbF (by omega)) | exact congrArg (_ + ·) (if_pos (by omega)).symm | exact congrArg (_ + ·) (if_neg (by omega)).symm | exact (if_pos (by omega)).symm | exact (if_neg (by omega)).symm | exact zsub_s (if_pos (by omega)).symm | exact zsub_s0 (if_neg (by omega)).symm | exact zadd0 (if_neg (by omega)).symm | exact zadd0 (zbF (by omega)) | exact (Int.sub_zero _).symm), rfl, rfl, trivial⟩ ?_
  refine zF_while (X := Nat) (fun x => nn N h - x) (fun x σ2 => x ≤ nn N h ∧ σ2 = σ ∧ ∀ k : Nat, k < x → rk N h k ≠ s) (fun x => [(2, zI ((x : Nat) : Int)), (0, zR (B 400)), (1, zI s)]) ?_ 0 σ (⟨Nat.zero_le _, rfl, fun k hk => absurd hk (Nat.not_lt_zero _)⟩)
  intro x σ2 hI2 ih2
  show zF G mX5_filmFor d 2 [(2, zI ((x : Nat) : Int)), (0, zR (B 400)), (1, zI s)] [] σ2 _
  obtain ⟨hx, e2, hno⟩ := hI2
  subst e2
  refine zF_iload_n 3 dX5_filmFor_2 rfl rfl ?_
  refine zF_aload_n 4 dX5_filmFor_3 rfl rfl ?_
  refine zF_getI 7 dX5_filmFor_4 rfl gX5_63 (by decide) (by decide) hP.1 hP.2.1 v.2.1 ?_
  refine zF_icmp_ge 33 10 dX5_filmFor_7 rfl rfl (by first | decide | assumption | exact hb _ | exact chr x (by omega) | (constructor <;> omega)) (by first | decide | assumption | exact hb _ | exact chr x (by omega) | (constructor <;> omega)) (fun c1 => ?_) (fun c1 => ?_)
  · refine zF_iconst 34 dX5_filmFor_33 rfl ?_
    exact zF_iretP dX5_filmFor_34 rfl (absurd hr (hno x0 (by omega)))
  · refine zF_aload_n 11 dX5_filmFor_10 rfl rfl ?_
    refine zF_getR 14 dX5_filmFor_11 rfl gX5_9 hP.1 hP.2.1 (cB_405 hP).1 ?_
    refine zF_iload_n 15 dX5_filmFor_14 rfl rfl ?_
    have rkx := rk_b hV (h := h) (k := (x : Int)) (by omega) (by omega)
    refine zF_iaload 16 dX5_filmFor_15 rfl (cB_405 hP).2.2 (cB_405 hP).2.1 (by omega) (by omega) (v.2.2.1 x (by omega)) ?_
    refine zF_iload_n 17 dX5_filmFor_16 rfl rfl ?_
    refine zF_icmp_ne 27 20 dX5_filmFor_17 rfl rfl (by first | decide | assumption | exact hb _ | exact chr x (by omega) | (constructor <;> omega)) (by first | decide | assumption | exact hb _ | exact chr x (by omega) | (constructor <;> omega)) (fun c2 => ?_) (fun c2 => ?_)
    · refine zF_iinc 30 (ls' := [(2, zI (((x : Nat) : Int) + 1)), (0, zR (B 400)), (1, zI s)]) dX5_filmFor_27 rfl rfl rfl (by decide) rfl ?_
      refine zF_goto 2 dX5_filmFor_30 rfl ?_
      exact zF_locs (ls' := [(2, zI (((x + 1) : Nat) : Int)), (0, zR (B 400)), (1, zI s)]) ⟨zlI rfl (by first | rfl | omega | (push_cast; omega) | exact congrArg (_ + ·) (zbT (by assumption)) | exact congrArg (_ + ·) (zbF (by assumption)) | exact congrArg (_ + ·) (zbT (by omega)) | exact congrArg (_ + ·) (zbF (by omega)) | exact congrArg (_ + ·) (if_pos (by omega)).symm | exact congrArg (_ + ·) (if_neg (by omega)).symm | exact (if_pos (by omega)).symm | exact (if_neg (by omega)).symm | exact zsub_s (if_pos (by omega)).symm | exact zsub_s0 (if_neg (by omega)).symm | exact zadd0 (if_neg (by omega)).symm | exact zadd0 (zbF (by omega)) | exact (Int.sub_zero _).symm), rfl, rfl, trivial⟩ (ih2 (x + 1) _ (by omega) (⟨by omega, rfl, fun k hk => by
          by_cases e : k = x
          · subst e; assumption
          · exact hno k (by omega)⟩))
    · refine zF_aload_n 21 dX5_filmFor_20 rfl rfl ?_
      refine zF_getR 24 dX5_filmFor_21 rfl gX5_15 hP.1 hP.2.1 (cB_406 hP).1 ?_
      refine zF_iload_n 25 dX5_filmFor_24 rfl rfl ?_
      refine zF_iaload 26 dX5_filmFor_25 rfl (cB_406 hP).2.2 (cB_406 hP).2.1 (by omega) (by omega) (v.2.2.2.1 x (by omega)) ?_
      exact zF_iretP dX5_filmFor_26 rfl (by rw [rk_eq (N := N) (h := h) (x := x) (by omega) hx0 (by omega) hr])
end ZC13

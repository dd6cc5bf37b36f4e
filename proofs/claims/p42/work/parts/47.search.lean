/-! the class: programs: the search -/
section ZC12
variable {G : zG} {d : Nat} {σ : zMem} {B : Nat → Nat} {N : Int → Int}
theorem msub_full {a : Nat} {ch : Int → Int} {n : Nat} (ha : a < 16) (h : msub a (opn ch n)) : msub a (fullM n) := msub_o ha (msk_lt _ _) fun k hk e => msub_b (msk_lt _ _) (msk_lt _ _) hk (tm_full ch (-2) n) (msub_b ha (msk_lt _ _) hk h e)
theorem sh_full {a : Nat} {ch : Int → Int} {f : Int} {n : Nat} (ha : a < 16) (h : msub a (opn ch n)) : tm ch f n ||| a < 16 ∧ msub (tm ch f n ||| a) (fullM n) := ⟨or_lt ⟨tm ch f n, msk_lt _ _⟩ ⟨a, ha⟩, mor_o (msk_lt _ _) ha (msk_lt _ _) (tm_full ch f n) (msub_full ha h)⟩
theorem full_p {m n : Nat} (hn : n ≤ 4) (hm : m < 16) (h : msub m (fullM n)) : m < 2 ^ n := (full_lt ⟨n, by omega⟩ ⟨m, hm⟩).mp h
theorem DPc_b (hV : mV N) (hQ : mC4 N) {h : Int} (h0 : 0 ≤ h) (h1 : h < 4) {lim ch : Int → Int} {f S : Nat} (hf : f ≤ nF N) {v : Int} (D : DPc N h lim ch f S v) : -1 ≤ v ∧ v ≤ 41575842 := by
  have hF := nF_eq hV
  refine ⟨D.1, ?_⟩
  rcases D.2.2 with z | ⟨t, _, e⟩
  · omega
  · have := pGN_b hV hQ h0 h1 lim t hf
    omega
theorem mxor_le {a b : Nat} (ha : a < 16) (hb : b < 16) (h : msub b a) : a ^^^ b ≤ a := by
  by_cases c : b = 0
  · subst c; exact Nat.le_of_eq (mxor_0 ⟨a, ha⟩)
  · exact Nat.le_of_lt (mxor_lt ⟨a, ha⟩ ⟨b, hb⟩ h (by show 0 < b; omega))
theorem msub_l {a b : Nat} (ha : a < 16) (hb : b < 16) (h : msub a b) : a ≤ b := msub_le ⟨a, ha⟩ ⟨b, hb⟩ h
theorem msub_z (a b : Nat) : (((a - (a &&& b) : Nat) : Int) = 0) ↔ msub a b := by
  unfold msub
  omega
/-- the gains of a film, in memory -/
def fgM (N : Int → Int) (h : Int) (lim ch : Int → Int) (f : Nat) (σ : zMem) (B : Nat → Nat) : Prop := ∀ P : Nat, P < 16 → msub P (opn ch (nn N h)) → zia σ (B 409) P = gM N h lim f (tm ch f (nn N h) ||| P)
/-- the best of the films before f, in memory -/
def arM (N : Int → Int) (h : Int) (lim ch : Int → Int) (f : Nat) (σ : zMem) (B : Nat → Nat) : Prop := ∀ R : Nat, R < 16 → (msub R (opn ch (nn N h)) → DPc N h lim ch f R (zia σ (B 410) R)) ∧ (¬ msub R (opn ch (nn N h)) → zia σ (B 410) R = -1)
theorem fgM_b (hV : mV N) (hQ : mC4 N) {h : Int} (h0 : 0 ≤ h) (h1 : h < 4) {lim ch : Int → Int} {f : Nat} (hf : f < nF N) (g : fgM N h lim ch f σ B) {P : Nat} (hP : P < 16) (hs : msub P (opn ch (nn N h))) : -1 ≤ zia σ (B 409) P ∧ zia σ (B 409) P ≤ 6929307 := by
  have hF := nF_eq hV
  rw [g P hP hs]
  obtain ⟨a, b⟩ := sh_full (f := (f : Int)) hP hs
  exact gM_b hV hQ h0 h1 (by omega) (by omega) a b
theorem arM_b (hV : mV N) (hQ : mC4 N) {h : Int} (h0 : 0 ≤ h) (h1 : h < 4) {lim ch : Int → Int} {f : Nat} (hf : f ≤ nF N) (a : arM N h lim ch f σ B) {R : Nat} (hR : R < 16) : -1 ≤ zia σ (B 410) R ∧ zia σ (B 410) R ≤ 41575842 := by
  by_cases c : msub R (opn ch (nn N h))
  · exact DPc_b hV hQ h0 h1 hf ((a R hR).1 c)
  · rw [(a R hR).2 c]; omega
/-- the best parting of a set, among the parts below x -/
def bpI (σ : zMem) (B : Nat → Nat) (S x : Nat) (g : Int) : Prop := -1 ≤ g ∧ g ≤ 50000000 ∧ (∀ P : Nat, P < x → P < 16 → msub P S → 0 ≤ zia σ (B 409) P → 0 ≤ zia σ (B 410) ((S ^^^ P : Nat) : Int) → zia σ (B 409) P + zia σ (B 410) ((S ^^^ P : Nat) : Int) ≤ g) ∧ (g = -1 ∨ ∃ P : Nat, P < 16 ∧ msub P S ∧ 0 ≤ zia σ (B 409) P ∧ 0 ≤ zia σ (B 410) ((S ^^^ P : Nat) : Int) ∧ zia σ (B 409) P + zia σ (B 410) ((S ^^^ P : Nat) : Int) = g)
theorem bpI_no {S x : Nat} {g : Int} (h : bpI σ B S x g) (n : ¬ (msub x S ∧ 0 ≤ zia σ (B 409) x ∧ 0 ≤ zia σ (B 410) ((S ^^^ x : Nat) : Int))) : bpI σ B S (x + 1) g := by
  obtain ⟨a, a2, b, c⟩ := h
  refine ⟨a, a2, fun P hP h16 hs p1 p2 => ?_, c⟩
  by_cases e : P = x
  · subst e; exact absurd ⟨hs, p1, p2⟩ n
  · exact b P (by omega) h16 hs p1 p2
theorem bpI_yes {S x : Nat} {g g' : Int} (h : bpI σ B S x g) (hx : x < 16) (hs : msub x S) (p1 : 0 ≤ zia σ (B 409) x) (p2 : 0 ≤ zia σ (B 410) ((S ^^^ x : Nat) : Int)) (q1 : zia σ (B 409) x ≤ 6929307) (q2 : zia σ (B 410) ((S ^^^ x : Nat) : Int) ≤ 41575842) (e : g' = max g (zia σ (B 409) x + zia σ (B 410) ((S ^^^ x : Nat) : Int))) : bpI σ B S (x + 1) g' := by
  obtain ⟨a, a2, b, c⟩ := h
  refine ⟨by omega, by omega, fun P hP h16 hs2 r1 r2 => ?_, ?_⟩
  · by_cases z : P = x
    · subst z; omega
    · have := b P (by omega) h16 hs2 r1 r2; omega
  · by_cases z : g < zia σ (B 409) x + zia σ (B 410) ((S ^^^ x : Nat) : Int)
    · clear c; exact Or.inr ⟨x, hx, hs, p1, p2, by omega⟩
    · rcases c with c | ⟨P, c1, c2, c3, c4, c5⟩
      · exact Or.inl (by omega)
      · exact Or.inr ⟨P, c1, c2, c3, c4, by omega⟩
/-- a set's new best, with the sets above already new -/
theorem add_step (hV : mV N) (hQ : mC4 N) {h : Int} (h0 : 0 ≤ h) (h1 : h < 4) {lim ch : Int → Int} {f S : Nat} (hf : f < nF N) (hS : S < 16) (hSo : msub S (opn ch (nn N h))) {σ2 : zMem} (fg : fgM N h lim ch f σ B) (ar : arM N h lim ch f σ B) (e9 : ∀ P : Nat, zia σ2 (B 409) P = zia σ (B 409) P) (e10 : ∀ R : Nat, R ≤ S → zia σ2 (B 410) R = zia σ (B 410) R) {v : Int} (b : bpI σ2 B S (S + 1) v) : DPc N h lim ch (f + 1) S v := by
  obtain ⟨a, a2, u, c⟩ := b
  have le : ∀ P : Nat, P < 16 → msub P S → P < S + 1 := fun P h16 hs => by have := msub_l h16 hS hs; omega
  have e : ∀ P : Nat, P < 16 → msub P S → zia σ2 (B 410) ((S ^^^ P : Nat) : Int) = zia σ (B 410) ((S ^^^ P : Nat) : Int) := fun P h16 hs => e10 _ (mxor_le hS h16 hs)
  refine DP_step hV hQ h0 h1 hf hS hSo (arr := fun R => zia σ (B 410) R) (fg := fun P => zia σ (B 409) P) (fun R hR ho => (ar R hR).1 ho) fg (fun P h16 hs p1 p2 => ?_) ?_ a
  · have := u P (le P h16 hs) h16 hs (by rw [e9]; exact p1) (by rw [e P h16 hs]; exact p2)
    rw [e9, e P h16 hs] at this
    exact this
  · rcases c with c | ⟨P, c1, c2, c3, c4, c5⟩
    · exact Or.inl c
    · rw [e9] at c3 c5
      rw [e P c1 c2] at c4 c5
      exact Or.inr ⟨P, c1, c2, c3, c4, c5⟩
def afI (N : Int → Int) (h : Int) (lim ch : Int → Int) (f x : Nat) (σ σ2 : zMem) (B : Nat → Nat) : Prop := ∀ R : Nat, R < 16 → (R < x → zia σ2 (B 410) R = zia σ (B 410) R) ∧ (x ≤ R → msub R (opn ch (nn N h)) → DPc N h lim ch (f + 1) R (zia σ2 (B 410) R)) ∧ (¬ msub R (opn ch (nn N h)) → zia σ2 (B 410) R = -1)
theorem afI_no {h : Int} {lim ch : Int → Int} {f y : Nat} {σ2 : zMem} (a : afI N h lim ch f (y + 1) σ σ2 B) (n : ¬ msub y (opn ch (nn N h))) : afI N h lim ch f y σ σ2 B := fun R hR => by
  obtain ⟨p, q, r⟩ := a R hR
  refine ⟨fun z => p (by omega), fun z hs => ?_, r⟩
  by_cases e : R = y
  · subst e; exact absurd hs n
  · exact q (by omega) hs
theorem afI_yes {h : Int} {lim ch : Int → Int} {f y : Nat} {σ2 : zMem} {v : Int} (a : afI N h lim ch f (y + 1) σ σ2 B) (hs : msub y (opn ch (nn N h))) (D : DPc N h lim ch (f + 1) y v) : afI N h lim ch f y σ (zsi σ2 (B 410) (y : Int) v) B := fun R hR => by
  obtain ⟨p, q, r⟩ := a R hR
  refine ⟨fun z => ?_, fun z hs2 => ?_, fun z => ?_⟩
  · rw [zia_si, if_neg (fun w => by have := w.2; omega)]; exact p (by omega)
  · rw [zia_si]
    by_cases e : R = y
    · subst e; rw [if_pos ⟨rfl, rfl⟩]; exact D
    · rw [if_neg (fun w => e (by have := w.2; omega))]; exact q (by omega) hs2
  · rw [zia_si, if_neg (fun w => z (by have e : R = y := by have := w.2; omega
                                       rw [e]; exact hs))]
    exact r z
theorem ar_0 {h : Int} {lim ch : Int → Int} (h4 : nn N h ≤ 4) {σ2 : zMem} (e : ∀ R : Nat, R < 16 → zia σ2 (B 410) R = if R = 0 then 0 else -1) : arM N h lim ch 0 σ2 B := fun R hR => ⟨fun ho => DP_0 h4 hR (e R hR) ho, fun n => by
  rw [e R hR]
  by_cases c : R = 0
  · subst c
    exact absurd (msub_o (by decide) (msk_lt _ _) fun k hk z => by rw [Nat.zero_testBit] at z; exact absurd z (by decide)) n
  · rw [if_neg c]⟩
def mxI (σ : zMem) (B : Nat → Nat) (x : Nat) (g : Int) : Prop := -1 ≤ g ∧ g ≤ 50000000 ∧ (∀ S : Nat, S < x → zia σ (B 410) S ≤ g) ∧ (g = -1 ∨ ∃ S : Nat, S < 16 ∧ zia σ (B 410) S = g)
theorem mxI_s {x : Nat} {g g' : Int} (h : mxI σ B x g) (hx : x < 16) (hb : zia σ (B 410) x ≤ 41575842) (e : g' = max g (zia σ (B 410) x)) : mxI σ B (x + 1) g' := by
  obtain ⟨a, a2, b, c⟩ := h
  refine ⟨by omega, by omega, fun S hS => ?_, ?_⟩
  · by_cases z : S = x
    · subst z; omega
    · have := b S (by omega); omega
  · by_cases z : g < zia σ (B 410) x
    · clear c; exact Or.inr ⟨x, hx, by omega⟩
    · rcases c with c | ⟨S, c1, c2⟩
      · exact Or.inl (by omega)
      · exact Or.inr ⟨S, c1, by omega⟩
theorem mx_end (hV : mV N) (hQ : mC4 N) {h : Int} (h0 : 0 ≤ h) (h1 : h < 4) {lim ch : Int → Int} (a : arM N h lim ch (nF N) σ B) {g : Int} (m : mxI σ B 16 g) : pMax N h lim ch g ∧ -1 ≤ g ∧ g ≤ 50000000 :=
  ⟨DP_end hV hQ h0 h1 (arr := fun R => zia σ (B 410) R) (fun S hS ho => (a S hS).1 ho) (fun S hS n => (a S hS).2 n) (fun S hS => m.2.2.1 S hS) m.2.2.2, m.1, m.2.1⟩
theorem zt_X5_findFilmGains {h : Int} {lim ch : Int → Int} {fn : Nat} (hB : cM σ B) (hP : cPr σ B) (hR : cR N σ B) (hV : mV N) (hQ : mC4 N) (h0 : 0 ≤ h) (h1 : h < N 0) (v : cPv N h lim ch σ B) (chr : ∀ k : Nat, k < nn N h → zrg (ch k)) (hf : fn < nF N) (lr : ∀ f, 0 ≤ f → f < N 2 → zrg (lim f)) : zE G mX5_findFilmGains (d + 4) [zR (B 400), zI (fn : Int), zI (((opn ch (nn N h)) : Nat) : Int)] σ (fun ro σ1 => ro = .inl none ∧ zFr (fun y _ => y = B 409) σ σ1 ∧ fgM N h lim ch fn σ1 B) := by
  refine zE_of rfl (by simp [zcat]) (Nat.le_of_ble_eq_true rfl) ?_
  show zF G mX5_findFilmGains (d + 4) 0 [(0, zR (B 400)), (1, zI ((fn : Nat) : Int)), (2, zI (((opn ch (nn N h)) : Nat) : Int))] [] σ _
  have hb := hV.b
  have hn := hV.n
  have hnn := nn_eq hQ h
  have hf0 := nF_eq hV
  have ol : (opn ch (nn N h)) < 16 := msk_lt _ _
  refine zF_aload_n 1 dX5_findFilmGains_0 rfl rfl ?_
  refine zF_iload_n 2 dX5_findFilmGains_1 rfl rfl ?_
  refine zF_callVi 5 (d2 := (d + 3)) (as := [zI ((fn : Nat) : Int)]) dX5_findFilmGains_2 rfl kX5_110 iX5_placesWith (ci := 5) rfl eX5_placesWith (Nat.le_refl _) hP.1 hP.2.1 rfl rfl (Nat.le_of_ble_eq_true rfl) ((zt_X5_placesWith (n := nn N h) hP v.2.1 hnn.2 (fun k hk => by rw [v.2.2.2.1 k hk]; exact chr k hk) (by first | decide | assumption | exact hb _ | (constructor <;> omega))).eq (by rw [tm_congr (u := ch) (fun k hk => v.2.2.2.1 k hk)])) ?_
  refine zF_istore_n 6 (ls' := [(3, zI ((tm ch ((fn : Nat) : Int) (nn N h) : Nat) : Int)), (0, zR (B 400)), (1, zI ((fn : Nat) : Int)), (2, zI (((opn ch (nn N h)) : Nat) : Int))]) dX5_findFilmGains_5 rfl (by decide) rfl ?_
  refine zF_aload_n 7 dX5_findFilmGains_6 rfl rfl ?_
  refine zF_getR 10 dX5_findFilmGains_7 rfl gX5_43 hP.1 hP.2.1 hP.2.2.2.1 ?_
  refine zF_getR 13 dX5_findFilmGains_10 rfl gX5_130 hB.st.1 hB.st.2.1 (cB_211 hB).1 ?_
  refine zF_iload_n 14 dX5_findFilmGains_13 rfl rfl ?_
  refine zF_iaload 15 dX5_findFilmGains_14 rfl (cB_211 hB).2.2 (cB_211 hB).2.1 (by omega) (by omega) (hR.s.2.2.2.1 _ (by omega) (by omega)).2.1 ?_
  refine zF_bipush 17 dX5_findFilmGains_15 rfl (by decide) ?_
  refine zF_imul 18 dX5_findFilmGains_17 rfl ?_
  refine zF_istore 20 (ls' := [(4, zI ((mDem N ((fn : Nat) : Int)) * 7)), (3, zI ((tm ch ((fn : Nat) : Int) (nn N h) : Nat) : Int)), (0, zR (B 400)), (1, zI ((fn : Nat) : Int)), (2, zI (((opn ch (nn N h)) : Nat) : Int))]) dX5_findFilmGains_18 rfl (by decide) rfl ?_
  refine zF_iconst 21 dX5_findFilmGains_20 rfl ?_
  refine zF_istore 23 (ls' := [(5, zI 0), (4, zI ((mDem N ((fn : Nat) : Int)) * 7)), (3, zI ((tm ch ((fn : Nat) : Int) (nn N h) : Nat) : Int)), (0, zR (B 400)), (1, zI ((fn : Nat) : Int)), (2, zI (((opn ch (nn N h)) : Nat) : Int))]) dX5_findFilmGains_21 rfl (by decide) rfl ?_
  refine zF_locs (ls' := [(5, zI ((0 : Nat) : Int)), (4, zI (mDem N (fn : Int) * 7)), (3, zI (((tm ch (fn : Int) (nn N h)) : Nat) : Int)), (0, zR (B 400)), (1, zI ((fn : Nat) : Int)), (2, zI (((opn ch (nn N h)) : Nat) : Int))]) ⟨zlI rfl (by first | rfl | omega | (push_cast; omega) | exact congrArg (_ + ·) (zbT (by assumption)) | exact congrArg (_ + ·) (zbF (by assumption)) | exact congrArg (_ + ·) (zbT (by omega)) | exact congrArg (_ + ·) (zbF (by omega)) | exact congrArg (_ + ·) (if_pos (by omega)).symm | exact congrArg (_ + ·) (if_neg (by omega)).symm | exact (if_pos (by omega)).symm | exact (if_neg (by omega)).symm | exact zsub_s (if_pos (by omega)).symm | exact zsub_s0 (if_neg (by omega)).symm | exact zadd0 (if_neg (by omega)).symm | exact zadd0 (zbF (by omega)) | exact (Int.sub_zero _).symm), zlI rfl (by first | rfl | omega | (push_cast; omega) | exact congrArg (_ + ·) (zbT (by assumption)) | exact congrArg (_ + ·) (zbF (by assumption)) | exact congrArg (_ + ·) (zbT (by omega)) | exact congrArg (_ + ·) (zbF (by omega)) | exact congrArg (_ + ·) (if_pos (by omega)).symm | exact congrArg (_ + ·) (if_neg (by omega)).symm | exact (if_pos (by omega)).symm | exact (if_neg (by omega)).symm | exact zsub_s (if_pos (by omega)).symm | exact zsub_s0 (if_neg (by omega)).symm | exact zadd0 (if_neg (by omega)).symm | exact zadd0 (zbF (by omega)) | exact (Int.sub_zero _).symm), zlI rfl (by first | rfl | omega | (push_cast; omega) | exact congrArg (_ + ·) (zbT (by assumption)) | exact congrArg (_ + ·) (zbF (by assumption)) | exact congrArg (_ + ·) (zbT (by omega)) | exact congrArg (_ + ·) (zbF (by omega)) | exact congrArg (_ + ·) (if_pos (by omega)).symm | exact congrArg (_ + ·) (if_neg (by omega)).symm | exact (if_pos (by omega)).symm | exact (if_neg (by omega)).symm | exact zsub_s (if_pos (by omega)).symm | exact zsub_s0 (if_neg (by omega)).symm | exact zadd0 (if_neg (by omega)).symm | exact zadd0 (zbF (by omega)) | exact (Int.sub_zero _).symm), rfl, rfl, rfl, trivial⟩ ?_
  refine zF_while (X := Nat) (fun x => (opn ch (nn N h)) + 1 - x) (fun x σ2 => x ≤ (opn ch (nn N h)) + 1 ∧ zFr (fun y _ => y = B 409) σ σ2 ∧ ∀ P : Nat, P < x → P < 16 → msub P (opn ch (nn N h)) → zia σ2 (B 409) P = gM N h lim fn ((tm ch (fn : Int) (nn N h)) ||| P)) (fun x => [(5, zI ((x : Nat) : Int)), (4, zI (mDem N (fn : Int) * 7)), (3, zI (((tm ch (fn : Int) (nn N h)) : Nat) : Int)), (0, zR (B 400)), (1, zI ((fn : Nat) : Int)), (2, zI (((opn ch (nn N h)) : Nat) : Int))]) ?_ 0 σ (⟨Nat.zero_le _, zFr.rf, fun P hP => absurd hP (Nat.not_lt_zero _)⟩)
  intro x σ2 hI23 ih23
  show zF G mX5_findFilmGains (d + 4) 23 [(5, zI ((x : Nat) : Int)), (4, zI (mDem N (fn : Int) * 7)), (3, zI (((tm ch (fn : Int) (nn N h)) : Nat) : Int)), (0, zR (B 400)), (1, zI ((fn : Nat) : Int)), (2, zI (((opn ch (nn N h)) : Nat) : Int))] [] σ2 _
  obtain ⟨hx, fr2, g2⟩ := hI23
  have hB2 := cM_fr hB fr2
  have hP2 := cPr_fr hP fr2
  have hR2 := cR_fr hB fr2 (fun i j hi q => by have := hB.inj _ _ q; omega) hR
  have v2 := cPv_fr v fr2 (fun j => ⟨fun q => absurd (hB.inj _ _ q) (by decide), fun q => absurd (hB.inj _ _ q) (by decide), fun q => absurd (hB.inj _ _ q) (by decide), fun q => absurd (hB.inj _ _ q) (by decide), fun q => absurd (hB.inj _ _ q) (by decide)⟩)
  refine zF_iload 25 dX5_findFilmGains_23 rfl rfl ?_
  refine zF_iload_n 26 dX5_findFilmGains_25 rfl rfl ?_
  refine zF_icmp_gt 134 29 dX5_findFilmGains_26 rfl rfl (by first | decide | assumption | exact hb _ | (constructor <;> omega)) (by first | decide | assumption | exact hb _ | (constructor <;> omega)) (fun c1 => ?_) (fun c1 => ?_)
  · exact zF_return dX5_findFilmGains_134 rfl (⟨rfl, fr2, fun P h16 hs => g2 P (by have := msub_l h16 ol hs; omega) h16 hs⟩)
  · refine zF_iload 31 dX5_findFilmGains_29 rfl rfl ?_
    refine zF_iload_n 32 dX5_findFilmGains_31 rfl rfl ?_
    refine zF_iconst 33 dX5_findFilmGains_32 rfl ?_
    refine zF_ixor 34 dX5_findFilmGains_33 rfl ?_
    refine zF_iand 35 dX5_findFilmGains_34 rfl ?_
    refine zF_I (b := ((x - (x &&& (opn ch (nn N h))) : Nat) : Int)) (bit_sub ⟨x, (by first | exact msk_lt _ _ | assumption | omega)⟩ ⟨(opn ch (nn N h)), (by first | exact msk_lt _ _ | assumption | omega)⟩) ?_
    refine zF_if_ne 128 38 dX5_findFilmGains_35 rfl rfl (by first | decide | assumption | exact hb _ | (constructor <;> omega)) (fun c2 => ?_) (fun c2 => ?_)
    · refine zF_iinc 131 (ls' := [(5, zI (((x : Nat) : Int) + 1)), (4, zI (mDem N (fn : Int) * 7)), (3, zI (((tm ch (fn : Int) (nn N h)) : Nat) : Int)), (0, zR (B 400)), (1, zI ((fn : Nat) : Int)), (2, zI (((opn ch (nn N h)) : Nat) : Int))]) dX5_findFilmGains_128 rfl rfl rfl (by decide) rfl ?_
      refine zF_goto 23 dX5_findFilmGains_131 rfl ?_
      exact zF_locs (ls' := [(5, zI (((x + 1) : Nat) : Int)), (4, zI (mDem N (fn : Int) * 7)), (3, zI (((tm ch (fn : Int) (nn N h)) : Nat) : Int)), (0, zR (B 400)), (1, zI ((fn : Nat) : Int)), (2, zI (((opn ch (nn N h)) : Nat) : Int))]) ⟨zlI rfl (by first | rfl | omega | (push_cast; omega) | exact congrArg (_ + ·) (zbT (by assumption)) | exact congrArg (_ + ·) (zbF (by assumption)) | exact congrArg (_ + ·) (zbT (by omega)) | exact congrArg (_ + ·) (zbF (by omega)) | exact congrArg (_ + ·) (if_pos (by omega)).symm | exact congrArg (_ + ·) (if_neg (by omega)).symm | exact (if_pos (by omega)).symm | exact (if_neg (by omega)).symm | exact zsub_s (if_pos (by omega)).symm | exact zsub_s0 (if_neg (by omega)).symm | exact zadd0 (if_neg (by omega)).symm | exact zadd0 (zbF (by omega)) | exact (Int.sub_zero _).symm), rfl, rfl, rfl, rfl, rfl, trivial⟩ (ih23 (x + 1) _ (by omega) (⟨by omega, fr2, fun P hP h16 hs => by
          by_cases e : P = x
          · subst e; exact absurd hs (fun z => by have := (msub_z P (opn ch (nn N h))).mpr z; omega)
          · exact g2 P (by omega) h16 hs⟩))
    · have x16 : x < 16 := by omega
      have hms : msub x (opn ch (nn N h)) := (msub_z x (opn ch (nn N h))).mp (by omega)
      have shf := sh_full (f := (fn : Int)) x16 hms
      have cpb := capM_b hV hQ shf.1 shf.2
      have tkb := tkM_b hV hQ (f := (fn : Int)) h0 (by omega) (by omega) (by omega) shf.1 shf.2
      have tkd : min (mDem N (fn : Int) * 7) (capM N h ((tm ch (fn : Int) (nn N h)) ||| x) * 7) * mH N h 0 = tkM N h (fn : Int) ((tm ch (fn : Int) (nn N h)) ||| x) := rfl
      have ppb := popM_b ((tm ch (fn : Int) (nn N h)) ||| x)
      have lrf := lr (fn : Int) (by omega) (by omega)
      have dmb := mDem_b hV (f := (fn : Int)) (by omega) (by omega) (mAge N (fn : Int)).toNat
      have dme : mDem N (fn : Int) = mDemN N (fn : Int) (mAge N (fn : Int)).toNat := rfl
      refine zF_iload_n 39 dX5_findFilmGains_38 rfl rfl ?_
      refine zF_iload 41 dX5_findFilmGains_39 rfl rfl ?_
      refine zF_ior 42 dX5_findFilmGains_41 rfl ?_
      refine zF_I (b := (((tm ch (fn : Int) (nn N h)) ||| x : Nat) : Int)) (bit_or ⟨(tm ch (fn : Int) (nn N h)), (by first | exact msk_lt _ _ | assumption | omega)⟩ ⟨x, (by first | exact msk_lt _ _ | assumption | omega)⟩) ?_
      refine zF_istore 44 (ls' := [(6, zI (((tm ch (fn : Int) (nn N h)) ||| x : Nat) : Int)), (5, zI ((x : Nat) : Int)), (4, zI (mDem N (fn : Int) * 7)), (3, zI (((tm ch (fn : Int) (nn N h)) : Nat) : Int)), (0, zR (B 400)), (1, zI ((fn : Nat) : Int)), (2, zI (((opn ch (nn N h)) : Nat) : Int))]) dX5_findFilmGains_42 rfl (by decide) rfl ?_
      refine zF_iload 46 dX5_findFilmGains_44 rfl rfl ?_
      refine zF_aload_n 47 dX5_findFilmGains_46 rfl rfl ?_
      refine zF_getR 50 dX5_findFilmGains_47 rfl gX5_21 hP2.1 hP2.2.1 (cB_408 hP2).1 ?_
      refine zF_iload 52 dX5_findFilmGains_50 rfl rfl ?_
      refine zF_iaload 53 dX5_findFilmGains_52 rfl (cB_408 hP2).2.2 (cB_408 hP2).2.1 (by omega) (by have := shf.1; omega) (v2.2.2.2.2.2 ((tm ch (fn : Int) (nn N h)) ||| x) (full_p hnn.2 shf.1 shf.2)) ?_
      refine zF_bipush 55 dX5_findFilmGains_53 rfl (by decide) ?_
      refine zF_imul 56 dX5_findFilmGains_55 rfl ?_
      refine zF_min 59 dX5_findFilmGains_56 rfl kX5_133 (Nat.le_refl _) (by first | decide | assumption | exact hb _ | (constructor <;> omega)) (by first | decide | assumption | exact hb _ | (constructor <;> omega)) (Nat.le_of_ble_eq_true rfl) ?_
      refine zF_aload_n 60 dX5_findFilmGains_59 rfl rfl ?_
      refine zF_getR 63 dX5_findFilmGains_60 rfl gX5_39 hP2.1 hP2.2.1 hP2.2.2.1 ?_
      refine zF_getR 66 dX5_findFilmGains_63 rfl gX5_136 hB2.ch.1 hB2.ch.2.1 (cB_101 hB2).1 ?_
      refine zF_aload_n 67 dX5_findFilmGains_66 rfl rfl ?_
      refine zF_getI 70 dX5_findFilmGains_67 rfl gX5_86 (by decide) (by decide) hP2.1 hP2.2.1 v2.1 ?_
      refine zF_iaload 71 dX5_findFilmGains_70 rfl (cB_101 hB2).2.2 (cB_101 hB2).2.1 (by omega) (by omega) (hR2.c.2.1 _ (by omega) (by omega)).1 ?_
      refine zF_imul 72 dX5_findFilmGains_71 rfl ?_
      refine zF_istore 74 (ls' := [(7, zI ((min (mDem N (fn : Int) * 7) ((capM N h ((tm ch (fn : Int) (nn N h)) ||| x)) * 7)) * (mH N (h) 0))), (6, zI (((tm ch (fn : Int) (nn N h)) ||| x : Nat) : Int)), (5, zI ((x : Nat) : Int)), (4, zI (mDem N (fn : Int) * 7)), (3, zI (((tm ch (fn : Int) (nn N h)) : Nat) : Int)), (0, zR (B 400)), (1, zI ((fn : Nat) : Int)), (2, zI (((opn ch (nn N h)) : Nat) : Int))]) dX5_findFilmGains_72 rfl (by decide) rfl ?_
      refine zF_iload 76 dX5_findFilmGains_74 rfl rfl ?_
      refine zF_callSi 79 (d2 := (d + 3)) (as := [zI (((tm ch (fn : Int) (nn N h)) ||| x : Nat) : Int)]) dX5_findFilmGains_76 rfl kX5_139 sJ6_bitCount_0f7a4 (Nat.le_refl _) rfl rfl (Nat.le_of_ble_eq_true rfl) (zt_J6_bitCount (by first | assumption | exact msk_lt _ _ | omega | exact shf.1)) ?_
      refine zF_aload_n 80 dX5_findFilmGains_79 rfl rfl ?_
      refine zF_getR 83 dX5_findFilmGains_80 rfl gX5_18 hP2.1 hP2.2.1 (cB_407 hP2).1 ?_
      refine zF_iload_n 84 dX5_findFilmGains_83 rfl rfl ?_
      refine zF_iaload 85 dX5_findFilmGains_84 rfl (cB_407 hP2).2.2 (cB_407 hP2).2.1 (by omega) (by omega) (v2.2.2.2.2.1 ((fn : Nat) : Int) (by omega) (by omega)) ?_
      refine zF_icmp_gt 92 88 dX5_findFilmGains_85 rfl rfl (by first | decide | assumption | exact hb _ | (constructor <;> omega)) (by first | decide | assumption | exact hb _ | (constructor <;> omega)) (fun c3 => ?_) (fun c3 => ?_)
      · refine zF_iconst 93 dX5_findFilmGains_92 rfl ?_
        refine zF_istore 95 (ls' := [(8, zI 0), (7, zI ((min (mDem N (fn : Int) * 7) ((capM N h ((tm ch (fn : Int) (nn N h)) ||| x)) * 7)) * (mH N (h) 0))), (6, zI (((tm ch (fn : Int) (nn N h)) ||| x : Nat) : Int)), (5, zI ((x : Nat) : Int)), (4, zI (mDem N (fn : Int) * 7)), (3, zI (((tm ch (fn : Int) (nn N h)) : Nat) : Int)), (0, zR (B 400)), (1, zI ((fn : Nat) : Int)), (2, zI (((opn ch (nn N h)) : Nat) : Int))]) dX5_findFilmGains_93 rfl (by decide) rfl ?_
        refine zF_aload_n 96 dX5_findFilmGains_95 rfl rfl ?_
        refine zF_getR 99 dX5_findFilmGains_96 rfl gX5_24 hP2.1 hP2.2.1 (cB_409 hP2).1 ?_
        refine zF_iload 101 dX5_findFilmGains_99 rfl rfl ?_
        refine zF_iload 103 dX5_findFilmGains_101 rfl rfl ?_
        refine zF_if_eq 126 106 dX5_findFilmGains_103 rfl rfl (by first | decide | assumption | exact hb _ | (constructor <;> omega)) (fun c4 => ?_) (fun c4 => ?_)
        · refine zF_iconst 127 dX5_findFilmGains_126 rfl ?_
          refine zF_iastore 128 dX5_findFilmGains_127 rfl (cB_409 hP2).2.2 (cB_409 hP2).2.1 (by omega) (by omega) ?_
          refine zF_iinc 131 (ls' := [(5, zI (((x : Nat) : Int) + 1)), (8, zI 0), (7, zI ((min (mDem N (fn : Int) * 7) ((capM N h ((tm ch (fn : Int) (nn N h)) ||| x)) * 7)) * (mH N (h) 0))), (6, zI (((tm ch (fn : Int) (nn N h)) ||| x : Nat) : Int)), (4, zI (mDem N (fn : Int) * 7)), (3, zI (((tm ch (fn : Int) (nn N h)) : Nat) : Int)), (0, zR (B 400)), (1, zI ((fn : Nat) : Int)), (2, zI (((opn ch (nn N h)) : Nat) : Int))]) dX5_findFilmGains_128 rfl rfl rfl (by decide) rfl ?_
          refine zF_goto 23 dX5_findFilmGains_131 rfl ?_
          exact zF_locs (ls' := [(5, zI (((x + 1) : Nat) : Int)), (4, zI (mDem N (fn : Int) * 7)), (3, zI (((tm ch (fn : Int) (nn N h)) : Nat) : Int)), (0, zR (B 400)), (1, zI ((fn : Nat) : Int)), (2, zI (((opn ch (nn N h)) : Nat) : Int))]) ⟨zlI rfl (by first | rfl | omega | (push_cast; omega) | exact congrArg (_ + ·) (zbT (by assumption)) | exact congrArg (_ + ·) (zbF (by assumption)) | exact congrArg (_ + ·) (zbT (by omega)) | exact congrArg (_ + ·) (zbF (by omega)) | exact congrArg (_ + ·) (if_pos (by omega)).symm | exact congrArg (_ + ·) (if_neg (by omega)).symm | exact (if_pos (by omega)).symm | exact (if_neg (by omega)).symm | exact zsub_s (if_pos (by omega)).symm | exact zsub_s0 (if_neg (by omega)).symm | exact zadd0 (if_neg (by omega)).symm | exact zadd0 (zbF (by omega)) | exact (Int.sub_zero _).symm), rfl, rfl, rfl, rfl, rfl, trivial⟩ (ih23 (x + 1) _ (by omega) (⟨by omega, zFr_si rfl fr2, fun P hP h16 hs => by
          rw [zia_si]
          by_cases e : P = x
          · rw [if_pos ⟨rfl, by omega⟩, e]; unfold gM; rw [if_neg (by omega)]; first | done | rfl
          · rw [if_neg (fun q => e (by have := q.2; omega))]; exact g2 P (by omega) h16 hs⟩))
        · exact absurd c4 (by decide)
      · refine zF_iconst 89 dX5_findFilmGains_88 rfl ?_
        refine zF_goto 93 dX5_findFilmGains_89 rfl ?_
        refine zF_istore 95 (ls' := [(8, zI 1), (7, zI ((min (mDem N (fn : Int) * 7) ((capM N h ((tm ch (fn : Int) (nn N h)) ||| x)) * 7)) * (mH N (h) 0))), (6, zI (((tm ch (fn : Int) (nn N h)) ||| x : Nat) : Int)), (5, zI ((x : Nat) : Int)), (4, zI (mDem N (fn : Int) * 7)), (3, zI (((tm ch (fn : Int) (nn N h)) : Nat) : Int)), (0, zR (B 400)), (1, zI ((fn : Nat) : Int)), (2, zI (((opn ch (nn N h)) : Nat) : Int))]) dX5_findFilmGains_93 rfl (by decide) rfl ?_
        refine zF_aload_n 96 dX5_findFilmGains_95 rfl rfl ?_
        refine zF_getR 99 dX5_findFilmGains_96 rfl gX5_24 hP2.1 hP2.2.1 (cB_409 hP2).1 ?_
        refine zF_iload 101 dX5_findFilmGains_99 rfl rfl ?_
        refine zF_iload 103 dX5_findFilmGains_101 rfl rfl ?_
        refine zF_if_eq 126 106 dX5_findFilmGains_103 rfl rfl (by first | decide | assumption | exact hb _ | (constructor <;> omega)) (fun c5 => ?_) (fun c5 => ?_)
        · exact absurd c5 (by decide)
        · refine zF_iload 108 dX5_findFilmGains_106 rfl rfl ?_
          refine zF_aload_n 109 dX5_findFilmGains_108 rfl rfl ?_
          refine zF_getR 112 dX5_findFilmGains_109 rfl gX5_47 hP2.1 hP2.2.1 hP2.2.2.2.2.1 ?_
          refine zF_aload_n 113 dX5_findFilmGains_112 rfl rfl ?_
          refine zF_getI 116 dX5_findFilmGains_113 rfl gX5_86 (by decide) (by decide) hP2.1 hP2.2.1 v2.1 ?_
          refine zF_iload_n 117 dX5_findFilmGains_116 rfl rfl ?_
          refine zF_iload 119 dX5_findFilmGains_117 rfl rfl ?_
          refine zF_callVi 122 (d2 := (d + 3)) (as := [zI (h), zI ((fn : Nat) : Int), zI ((min (mDem N (fn : Int) * 7) ((capM N h ((tm ch (fn : Int) (nn N h)) ||| x)) * 7)) * (mH N (h) 0))]) dX5_findFilmGains_119 rfl kX5_144 iX10_shareOf (ci := 10) rfl eX10_shareOf (Nat.le_refl _) hB2.wk.1 hB2.wk.2.1 rfl rfl (Nat.le_of_ble_eq_true rfl) (zt_X10_shareOf hB2 hR2 hV (by omega) (by omega) (by omega) (by omega) (by omega) (by omega)) ?_
          refine zF_isub 123 dX5_findFilmGains_122 rfl ?_
          refine zF_goto 127 dX5_findFilmGains_123 rfl ?_
          refine zF_iastore 128 dX5_findFilmGains_127 rfl (cB_409 hP2).2.2 (cB_409 hP2).2.1 (by omega) (by omega) ?_
          refine zF_iinc 131 (ls' := [(5, zI (((x : Nat) : Int) + 1)), (8, zI 1), (7, zI ((min (mDem N (fn : Int) * 7) ((capM N h ((tm ch (fn : Int) (nn N h)) ||| x)) * 7)) * (mH N (h) 0))), (6, zI (((tm ch (fn : Int) (nn N h)) ||| x : Nat) : Int)), (4, zI (mDem N (fn : Int) * 7)), (3, zI (((tm ch (fn : Int) (nn N h)) : Nat) : Int)), (0, zR (B 400)), (1, zI ((fn : Nat) : Int)), (2, zI (((opn ch (nn N h)) : Nat) : Int))]) dX5_findFilmGains_128 rfl rfl rfl (by decide) rfl ?_
          refine zF_goto 23 dX5_findFilmGains_131 rfl ?_
          exact zF_locs (ls' := [(5, zI (((x + 1) : Nat) : Int)), (4, zI (mDem N (fn : Int) * 7)), (3, zI (((tm ch (fn : Int) (nn N h)) : Nat) : Int)), (0, zR (B 400)), (1, zI ((fn : Nat) : Int)), (2, zI (((opn ch (nn N h)) : Nat) : Int))]) ⟨zlI rfl (by first | rfl | omega | (push_cast; omega) | exact congrArg (_ + ·) (zbT (by assumption)) | exact congrArg (_ + ·) (zbF (by assumption)) | exact congrArg (_ + ·) (zbT (by omega)) | exact congrArg (_ + ·) (zbF (by omega)) | exact congrArg (_ + ·) (if_pos (by omega)).symm | exact congrArg (_ + ·) (if_neg (by omega)).symm | exact (if_pos (by omega)).symm | exact (if_neg (by omega)).symm | exact zsub_s (if_pos (by omega)).symm | exact zsub_s0 (if_neg (by omega)).symm | exact zadd0 (if_neg (by omega)).symm | exact zadd0 (zbF (by omega)) | exact (Int.sub_zero _).symm), rfl, rfl, rfl, rfl, rfl, trivial⟩ (ih23 (x + 1) _ (by omega) (⟨by omega, zFr_si rfl fr2, fun P hP h16 hs => by
          rw [zia_si]
          by_cases e : P = x
          · rw [if_pos ⟨rfl, by omega⟩, e]; unfold gM; rw [if_pos (by omega)]; first | done | rfl
          · rw [if_neg (fun q => e (by have := q.2; omega))]; exact g2 P (by omega) h16 hs⟩))
theorem zt_X5_bestParting {S : Nat} (hS : S < 16) (hP : cPr σ B) (fb : ∀ P : Nat, P < 16 → msub P S → zia σ (B 409) P ≤ 6929307 ∧ -1 ≤ zia σ (B 409) P) (ab : ∀ R : Nat, R < 16 → zia σ (B 410) R ≤ 41575842 ∧ -1 ≤ zia σ (B 410) R) : zE G mX5_bestParting (d + 2) [zR (B 400), zI ((S : Nat) : Int)] σ (fun ro σ1 => ∃ g, ro = .inl (some (zI g)) ∧ σ1 = σ ∧ bpI σ B S (S + 1) g) := by
  refine zE_of rfl (by simp [zcat]) (Nat.le_of_ble_eq_true rfl) ?_
  show zF G mX5_bestParting (d + 2) 0 [(0, zR (B 400)), (1, zI ((S : Nat) : Int))] [] σ _
  refine zF_iconst 1 dX5_bestParting_0 rfl ?_
  refine zF_istore_n 2 (ls' := [(2, zI (-1)), (0, zR (B 400)), (1, zI ((S : Nat) : Int))]) dX5_bestParting_1 rfl (by decide) rfl ?_
  refine zF_iconst 3 dX5_bestParting_2 rfl ?_
  refine zF_istore_n 4 (ls' := [(3, zI 0), (2, zI (-1)), (0, zR (B 400)), (1, zI ((S : Nat) : Int))]) dX5_bestParting_3 rfl (by decide) rfl ?_
  refine zF_locs (ls' := [(3, zI ((0 : Nat) : Int)), (2, zI (-1)), (0, zR (B 400)), (1, zI ((S : Nat) : Int))]) ⟨zlI rfl (by first | rfl | omega | (push_cast; omega) | exact congrArg (_ + ·) (zbT (by assumption)) | exact congrArg (_ + ·) (zbF (by assumption)) | exact congrArg (_ + ·) (zbT (by omega)) | exact congrArg (_ + ·) (zbF (by omega)) | exact congrArg (_ + ·) (if_pos (by omega)).symm | exact congrArg (_ + ·) (if_neg (by omega)).symm | exact (if_pos (by omega)).symm | exact (if_neg (by omega)).symm | exact zsub_s (if_pos (by omega)).symm | exact zsub_s0 (if_neg (by omega)).symm | exact zadd0 (if_neg (by omega)).symm | exact zadd0 (zbF (by omega)) | exact (Int.sub_zero _).symm), rfl, rfl, rfl, trivial⟩ ?_
  refine zF_while (X := Int × Nat) (fun x => S + 1 - x.2) (fun x σ2 => x.2 ≤ S + 1 ∧ σ2 = σ ∧ bpI σ B S x.2 x.1) (fun x => [(3, zI ((x.2 : Nat) : Int)), (2, zI x.1), (0, zR (B 400)), (1, zI ((S : Nat) : Int))]) ?_ (-1, 0) σ (⟨Nat.zero_le _, rfl, by show (-1 : Int) ≤ -1; decide, by show (-1 : Int) ≤ 50000000; decide, fun P hP => absurd hP (Nat.not_lt_zero _), Or.inl rfl⟩)
  intro ⟨g, x⟩ σ2 hI4 ih4
  show zF G mX5_bestParting (d + 2) 4 [(3, zI ((x : Nat) : Int)), (2, zI g), (0, zR (B 400)), (1, zI ((S : Nat) : Int))] [] σ2 _
  obtain ⟨hx, e2, i2⟩ := hI4
  dsimp only at hx i2
  subst e2
  have i20 := i2.1
  have i21 := i2.2.1
  refine zF_iload_n 5 dX5_bestParting_4 rfl rfl ?_
  refine zF_iload_n 6 dX5_bestParting_5 rfl rfl ?_
  refine zF_icmp_gt 63 9 dX5_bestParting_6 rfl rfl (by first | decide | assumption | (constructor <;> omega)) (by first | decide | assumption | (constructor <;> omega)) (fun c1 => ?_) (fun c1 => ?_)
  · refine zF_iload_n 64 dX5_bestParting_63 rfl rfl ?_
    exact zF_ireturn dX5_bestParting_64 rfl (⟨g, rfl, rfl, by have ex : x = S + 1 := (by omega); rw [ex] at i2; exact i2⟩)
  · have x16 : x < 16 := by omega
    refine zF_iload_n 10 dX5_bestParting_9 rfl rfl ?_
    refine zF_iload_n 11 dX5_bestParting_10 rfl rfl ?_
    refine zF_iconst 12 dX5_bestParting_11 rfl ?_
    refine zF_ixor 13 dX5_bestParting_12 rfl ?_
    refine zF_iand 14 dX5_bestParting_13 rfl ?_
    refine zF_I (b := ((x - (x &&& S) : Nat) : Int)) (bit_sub ⟨x, (by first | exact msk_lt _ _ | assumption | omega)⟩ ⟨S, (by first | exact msk_lt _ _ | assumption | omega)⟩) ?_
    refine zF_if_ne 57 17 dX5_bestParting_14 rfl rfl (by first | decide | assumption | (constructor <;> omega)) (fun c2 => ?_) (fun c2 => ?_)
    · refine zF_iinc 60 (ls' := [(3, zI (((x : Nat) : Int) + 1)), (2, zI g), (0, zR (B 400)), (1, zI ((S : Nat) : Int))]) dX5_bestParting_57 rfl rfl rfl (by decide) rfl ?_
      refine zF_goto 4 dX5_bestParting_60 rfl ?_
      exact zF_locs (ls' := [(3, zI (((x + 1) : Nat) : Int)), (2, zI g), (0, zR (B 400)), (1, zI ((S : Nat) : Int))]) ⟨zlI rfl (by first | rfl | omega | (push_cast; omega) | exact congrArg (_ + ·) (zbT (by assumption)) | exact congrArg (_ + ·) (zbF (by assumption)) | exact congrArg (_ + ·) (zbT (by omega)) | exact congrArg (_ + ·) (zbF (by omega)) | exact congrArg (_ + ·) (if_pos (by omega)).symm | exact congrArg (_ + ·) (if_neg (by omega)).symm | exact (if_pos (by omega)).symm | exact (if_neg (by omega)).symm | exact zsub_s (if_pos (by omega)).symm | exact zsub_s0 (if_neg (by omega)).symm | exact zadd0 (if_neg (by omega)).symm | exact zadd0 (zbF (by omega)) | exact (Int.sub_zero _).symm), rfl, rfl, rfl, trivial⟩ (ih4 (g, (x + 1)) _ (by show S + 1 - (x + 1) < S + 1 - x; omega) (⟨by show x + 1 ≤ S + 1; omega, rfl, bpI_no i2 (fun q => by have q1 := (msub_z x S).mpr q.1; have q2 := q.2.1; have q3 := q.2.2; omega)⟩))
    · have hms : msub x S := (msub_z x S).mp (by omega)
      have fbx := fb x x16 hms
      have xl := mxor_le hS x16 hms
      have abx := ab (S ^^^ x) (by omega)
      refine zF_aload_n 18 dX5_bestParting_17 rfl rfl ?_
      refine zF_getR 21 dX5_bestParting_18 rfl gX5_24 hP.1 hP.2.1 (cB_409 hP).1 ?_
      refine zF_iload_n 22 dX5_bestParting_21 rfl rfl ?_
      refine zF_iaload 23 dX5_bestParting_22 rfl (cB_409 hP).2.2 (cB_409 hP).2.1 (by omega) (by omega) rfl ?_
      refine zF_if_lt 57 26 dX5_bestParting_23 rfl rfl (by first | decide | assumption | (constructor <;> omega)) (fun c3 => ?_) (fun c3 => ?_)
      · refine zF_iinc 60 (ls' := [(3, zI (((x : Nat) : Int) + 1)), (2, zI g), (0, zR (B 400)), (1, zI ((S : Nat) : Int))]) dX5_bestParting_57 rfl rfl rfl (by decide) rfl ?_
        refine zF_goto 4 dX5_bestParting_60 rfl ?_
        exact zF_locs (ls' := [(3, zI (((x + 1) : Nat) : Int)), (2, zI g), (0, zR (B 400)), (1, zI ((S : Nat) : Int))]) ⟨zlI rfl (by first | rfl | omega | (push_cast; omega) | exact congrArg (_ + ·) (zbT (by assumption)) | exact congrArg (_ + ·) (zbF (by assumption)) | exact congrArg (_ + ·) (zbT (by omega)) | exact congrArg (_ + ·) (zbF (by omega)) | exact congrArg (_ + ·) (if_pos (by omega)).symm | exact congrArg (_ + ·) (if_neg (by omega)).symm | exact (if_pos (by omega)).symm | exact (if_neg (by omega)).symm | exact zsub_s (if_pos (by omega)).symm | exact zsub_s0 (if_neg (by omega)).symm | exact zadd0 (if_neg (by omega)).symm | exact zadd0 (zbF (by omega)) | exact (Int.sub_zero _).symm), rfl, rfl, rfl, trivial⟩ (ih4 (g, (x + 1)) _ (by show S + 1 - (x + 1) < S + 1 - x; omega) (⟨by show x + 1 ≤ S + 1; omega, rfl, bpI_no i2 (fun q => by have q1 := (msub_z x S).mpr q.1; have q2 := q.2.1; have q3 := q.2.2; omega)⟩))
      · refine zF_aload_n 27 dX5_bestParting_26 rfl rfl ?_
        refine zF_getR 30 dX5_bestParting_27 rfl gX5_27 hP.1 hP.2.1 (cB_410 hP).1 ?_
        refine zF_iload_n 31 dX5_bestParting_30 rfl rfl ?_
        refine zF_iload_n 32 dX5_bestParting_31 rfl rfl ?_
        refine zF_ixor 33 dX5_bestParting_32 rfl ?_
        refine zF_I (b := ((S ^^^ x : Nat) : Int)) (bit_xor ⟨S, (by first | exact msk_lt _ _ | assumption | omega)⟩ ⟨x, (by first | exact msk_lt _ _ | assumption | omega)⟩) ?_
        refine zF_iaload 34 dX5_bestParting_33 rfl (cB_410 hP).2.2 (cB_410 hP).2.1 (by omega) (by omega) rfl ?_
        refine zF_if_lt 57 37 dX5_bestParting_34 rfl rfl (by first | decide | assumption | (constructor <;> omega)) (fun c4 => ?_) (fun c4 => ?_)
        · refine zF_iinc 60 (ls' := [(3, zI (((x : Nat) : Int) + 1)), (2, zI g), (0, zR (B 400)), (1, zI ((S : Nat) : Int))]) dX5_bestParting_57 rfl rfl rfl (by decide) rfl ?_
          refine zF_goto 4 dX5_bestParting_60 rfl ?_
          exact zF_locs (ls' := [(3, zI (((x + 1) : Nat) : Int)), (2, zI g), (0, zR (B 400)), (1, zI ((S : Nat) : Int))]) ⟨zlI rfl (by first | rfl | omega | (push_cast; omega) | exact congrArg (_ + ·) (zbT (by assumption)) | exact congrArg (_ + ·) (zbF (by assumption)) | exact congrArg (_ + ·) (zbT (by omega)) | exact congrArg (_ + ·) (zbF (by omega)) | exact congrArg (_ + ·) (if_pos (by omega)).symm | exact congrArg (_ + ·) (if_neg (by omega)).symm | exact (if_pos (by omega)).symm | exact (if_neg (by omega)).symm | exact zsub_s (if_pos (by omega)).symm | exact zsub_s0 (if_neg (by omega)).symm | exact zadd0 (if_neg (by omega)).symm | exact zadd0 (zbF (by omega)) | exact (Int.sub_zero _).symm), rfl, rfl, rfl, trivial⟩ (ih4 (g, (x + 1)) _ (by show S + 1 - (x + 1) < S + 1 - x; omega) (⟨by show x + 1 ≤ S + 1; omega, rfl, bpI_no i2 (fun q => by have q1 := (msub_z x S).mpr q.1; have q2 := q.2.1; have q3 := q.2.2; omega)⟩))
        · refine zF_iload_n 38 dX5_bestParting_37 rfl rfl ?_
          refine zF_aload_n 39 dX5_bestParting_38 rfl rfl ?_
          refine zF_getR 42 dX5_bestParting_39 rfl gX5_24 hP.1 hP.2.1 (cB_409 hP).1 ?_
          refine zF_iload_n 43 dX5_bestParting_42 rfl rfl ?_
          refine zF_iaload 44 dX5_bestParting_43 rfl (cB_409 hP).2.2 (cB_409 hP).2.1 (by omega) (by omega) rfl ?_
          refine zF_aload_n 45 dX5_bestParting_44 rfl rfl ?_
          refine zF_getR 48 dX5_bestParting_45 rfl gX5_27 hP.1 hP.2.1 (cB_410 hP).1 ?_
          refine zF_iload_n 49 dX5_bestParting_48 rfl rfl ?_
          refine zF_iload_n 50 dX5_bestParting_49 rfl rfl ?_
          refine zF_ixor 51 dX5_bestParting_50 rfl ?_
          refine zF_I (b := ((S ^^^ x : Nat) : Int)) (bit_xor ⟨S, (by first | exact msk_lt _ _ | assumption | omega)⟩ ⟨x, (by first | exact msk_lt _ _ | assumption | omega)⟩) ?_
          refine zF_iaload 52 dX5_bestParting_51 rfl (cB_410 hP).2.2 (cB_410 hP).2.1 (by omega) (by omega) rfl ?_
          refine zF_iadd 53 dX5_bestParting_52 rfl ?_
          refine zF_max 56 dX5_bestParting_53 rfl kX5_125 (Nat.le_refl _) (by first | decide | assumption | (constructor <;> omega)) (by first | decide | assumption | (constructor <;> omega)) (Nat.le_of_ble_eq_true rfl) ?_
          refine zF_istore_n 57 (ls' := [(2, zI (max g ((zia σ2 (B 409) ((x : Nat) : Int)) + (zia σ2 (B 410) ((S ^^^ x : Nat) : Int))))), (3, zI ((x : Nat) : Int)), (0, zR (B 400)), (1, zI ((S : Nat) : Int))]) dX5_bestParting_56 rfl (by decide) rfl ?_
          refine zF_iinc 60 (ls' := [(3, zI (((x : Nat) : Int) + 1)), (2, zI (max g ((zia σ2 (B 409) ((x : Nat) : Int)) + (zia σ2 (B 410) ((S ^^^ x : Nat) : Int))))), (0, zR (B 400)), (1, zI ((S : Nat) : Int))]) dX5_bestParting_57 rfl rfl rfl (by decide) rfl ?_
          refine zF_goto 4 dX5_bestParting_60 rfl ?_
          exact zF_locs (ls' := [(3, zI (((x + 1) : Nat) : Int)), (2, zI (max g ((zia σ2 (B 409) ((x : Nat) : Int)) + (zia σ2 (B 410) ((S ^^^ x : Nat) : Int))))), (0, zR (B 400)), (1, zI ((S : Nat) : Int))]) ⟨zlI rfl (by first | rfl | omega | (push_cast; omega) | exact congrArg (_ + ·) (zbT (by assumption)) | exact congrArg (_ + ·) (zbF (by assumption)) | exact congrArg (_ + ·) (zbT (by omega)) | exact congrArg (_ + ·) (zbF (by omega)) | exact congrArg (_ + ·) (if_pos (by omega)).symm | exact congrArg (_ + ·) (if_neg (by omega)).symm | exact (if_pos (by omega)).symm | exact (if_neg (by omega)).symm | exact zsub_s (if_pos (by omega)).symm | exact zsub_s0 (if_neg (by omega)).symm | exact zadd0 (if_neg (by omega)).symm | exact zadd0 (zbF (by omega)) | exact (Int.sub_zero _).symm), rfl, rfl, rfl, trivial⟩ (ih4 ((max g ((zia σ2 (B 409) ((x : Nat) : Int)) + (zia σ2 (B 410) ((S ^^^ x : Nat) : Int)))), (x + 1)) _ (by show S + 1 - (x + 1) < S + 1 - x; omega) (⟨by show x + 1 ≤ S + 1; omega, rfl, bpI_yes i2 x16 hms (by omega) (by omega) (by omega) (by omega) rfl⟩))
theorem zt_X5_addFilm {h : Int} {lim ch : Int → Int} {fn : Nat} (hB : cM σ B) (hP : cPr σ B) (hR : cR N σ B) (hV : mV N) (hQ : mC4 N) (h0 : 0 ≤ h) (h1 : h < N 0) (v : cPv N h lim ch σ B) (chr : ∀ k : Nat, k < nn N h → zrg (ch k)) (hf : fn < nF N) (fg : fgM N h lim ch fn σ B) (ar : arM N h lim ch fn σ B) : zE G mX5_addFilm (d + 3) [zR (B 400), zI (((opn ch (nn N h)) : Nat) : Int)] σ (fun ro σ1 => ro = .inl none ∧ zFr (fun y _ => y = B 410) σ σ1 ∧ arM N h lim ch (fn + 1) σ1 B) := by
  refine zE_of rfl (by simp [zcat]) (Nat.le_of_ble_eq_true rfl) ?_
  show zF G mX5_addFilm (d + 3) 0 [(0, zR (B 400)), (1, zI (((opn ch (nn N h)) : Nat) : Int))] [] σ _
  have hb := hV.b
  have hn := hV.n
  have hnn := nn_eq hQ h
  have hf0 := nF_eq hV
  have ol : (opn ch (nn N h)) < 16 := msk_lt _ _
  refine zF_iload_n 1 dX5_addFilm_0 rfl rfl ?_
  refine zF_istore_n 2 (ls' := [(2, zI (((opn ch (nn N h)) : Nat) : Int)), (0, zR (B 400)), (1, zI (((opn ch (nn N h)) : Nat) : Int))]) dX5_addFilm_1 rfl (by decide) rfl ?_
  refine zF_locs (ls' := [(2, zI (((((opn ch (nn N h)) + 1) : Nat) : Int) - 1)), (0, zR (B 400)), (1, zI (((opn ch (nn N h)) : Nat) : Int))]) ⟨zlI rfl (by first | rfl | omega | (push_cast; omega) | exact congrArg (_ + ·) (zbT (by assumption)) | exact congrArg (_ + ·) (zbF (by assumption)) | exact congrArg (_ + ·) (zbT (by omega)) | exact congrArg (_ + ·) (zbF (by omega)) | exact congrArg (_ + ·) (if_pos (by omega)).symm | exact congrArg (_ + ·) (if_neg (by omega)).symm | exact (if_pos (by omega)).symm | exact (if_neg (by omega)).symm | exact zsub_s (if_pos (by omega)).symm | exact zsub_s0 (if_neg (by omega)).symm | exact zadd0 (if_neg (by omega)).symm | exact zadd0 (zbF (by omega)) | exact (Int.sub_zero _).symm), rfl, rfl, trivial⟩ ?_
  refine zF_while (X := Nat) (fun x => x) (fun x σ2 => x ≤ (opn ch (nn N h)) + 1 ∧ zFr (fun y _ => y = B 410) σ σ2 ∧ afI N h lim ch fn x σ σ2 B) (fun x => [(2, zI (((x : Nat) : Int) - 1)), (0, zR (B 400)), (1, zI (((opn ch (nn N h)) : Nat) : Int))]) ?_ ((opn ch (nn N h)) + 1) σ (⟨Nat.le_refl _, zFr.rf, fun R hR => ⟨fun _ => rfl, fun z hs => by have := msub_l hR ol hs; omega, (ar R hR).2⟩⟩)
  intro x σ2 hI2 ih2
  show zF G mX5_addFilm (d + 3) 2 [(2, zI (((x : Nat) : Int) - 1)), (0, zR (B 400)), (1, zI (((opn ch (nn N h)) : Nat) : Int))] [] σ2 _
  obtain ⟨hx, fr2, a2⟩ := hI2
  have hB2 := cM_fr hB fr2
  have hP2 := cPr_fr hP fr2
  have hR2 := cR_fr hB fr2 (fun i j hi q => by have := hB.inj _ _ q; omega) hR
  have v2 := cPv_fr v fr2 (fun j => ⟨fun q => absurd (hB.inj _ _ q) (by decide), fun q => absurd (hB.inj _ _ q) (by decide), fun q => absurd (hB.inj _ _ q) (by decide), fun q => absurd (hB.inj _ _ q) (by decide), fun q => absurd (hB.inj _ _ q) (by decide)⟩)
  refine zF_iload_n 3 dX5_addFilm_2 rfl rfl ?_
  refine zF_if_lt 31 6 dX5_addFilm_3 rfl rfl (by first | decide | assumption | exact hb _ | (constructor <;> omega)) (fun c1 => ?_) (fun c1 => ?_)
  · exact zF_return dX5_addFilm_31 rfl (⟨rfl, fr2, fun R hR => ⟨fun ho => (a2 R hR).2.1 (by omega) ho, (a2 R hR).2.2⟩⟩)
  · obtain ⟨y, hy⟩ : ∃ y : Nat, x = y + 1 := ⟨x - 1, by omega⟩
    have ey : (((x : Nat) : Int) - 1) = (y : Int) := by omega
    rw [hy] at a2
    refine zF_locs (ls' := [(2, zI ((y : Nat) : Int)), (0, zR (B 400)), (1, zI (((opn ch (nn N h)) : Nat) : Int))]) ⟨zlI rfl ey, rfl, rfl, trivial⟩ ?_
    have y16 : y < 16 := by omega
    refine zF_iload_n 7 dX5_addFilm_6 rfl rfl ?_
    refine zF_iload_n 8 dX5_addFilm_7 rfl rfl ?_
    refine zF_iconst 9 dX5_addFilm_8 rfl ?_
    refine zF_ixor 10 dX5_addFilm_9 rfl ?_
    refine zF_iand 11 dX5_addFilm_10 rfl ?_
    refine zF_I (b := ((y - (y &&& (opn ch (nn N h))) : Nat) : Int)) (bit_sub ⟨y, (by first | exact msk_lt _ _ | assumption | omega)⟩ ⟨(opn ch (nn N h)), (by first | exact msk_lt _ _ | assumption | omega)⟩) ?_
    refine zF_if_ne 25 14 dX5_addFilm_11 rfl rfl (by first | decide | assumption | exact hb _ | (constructor <;> omega)) (fun c2 => ?_) (fun c2 => ?_)
    · refine zF_iinc 28 (ls' := [(2, zI (((y : Nat) : Int) + (-1))), (0, zR (B 400)), (1, zI (((opn ch (nn N h)) : Nat) : Int))]) dX5_addFilm_25 rfl rfl rfl (by decide) rfl ?_
      refine zF_goto 2 dX5_addFilm_28 rfl ?_
      exact zF_locs (ls' := [(2, zI (((y : Nat) : Int) - 1)), (0, zR (B 400)), (1, zI (((opn ch (nn N h)) : Nat) : Int))]) ⟨zlI rfl (by first | rfl | omega | (push_cast; omega) | exact congrArg (_ + ·) (zbT (by assumption)) | exact congrArg (_ + ·) (zbF (by assumption)) | exact congrArg (_ + ·) (zbT (by omega)) | exact congrArg (_ + ·) (zbF (by omega)) | exact congrArg (_ + ·) (if_pos (by omega)).symm | exact congrArg (_ + ·) (if_neg (by omega)).symm | exact (if_pos (by omega)).symm | exact (if_neg (by omega)).symm | exact zsub_s (if_pos (by omega)).symm | exact zsub_s0 (if_neg (by omega)).symm | exact zadd0 (if_neg (by omega)).symm | exact zadd0 (zbF (by omega)) | exact (Int.sub_zero _).symm), rfl, rfl, trivial⟩ (ih2 y _ (by omega) (⟨by omega, fr2, afI_no a2 (fun z => by have := (msub_z y (opn ch (nn N h))).mpr z; omega)⟩))
    · have hms : msub y (opn ch (nn N h)) := (msub_z y (opn ch (nn N h))).mp (by omega)
      have fb2 : ∀ P : Nat, P < 16 → msub P y → zia σ2 (B 409) P ≤ 6929307 ∧ -1 ≤ zia σ2 (B 409) P := fun P h16 hs => by
          have := fgM_b hV hQ h0 (by omega) hf fg h16 (msub_o h16 ol fun k hk e => msub_b y16 ol hk hms (msub_b h16 y16 hk hs e))
          rw [fr2.2.2.2.2.2 _ _ (fun q => absurd (hB.inj _ _ q) (by decide))]
          omega
      have ab2 : ∀ R : Nat, R < 16 → zia σ2 (B 410) R ≤ 41575842 ∧ -1 ≤ zia σ2 (B 410) R := fun R hR => by
          by_cases z : R < y + 1
          · rw [(a2 R hR).1 z]
            have := arM_b hV hQ h0 (by omega) (Nat.le_of_lt hf) ar hR
            omega
          · by_cases c : msub R (opn ch (nn N h))
            · have := DPc_b hV hQ h0 (by omega) hf ((a2 R hR).2.1 (by omega) c)
              omega
            · rw [(a2 R hR).2.2 c]; omega
      refine zF_aload_n 15 dX5_addFilm_14 rfl rfl ?_
      refine zF_getR 18 dX5_addFilm_15 rfl gX5_27 hP2.1 hP2.2.1 (cB_410 hP2).1 ?_
      refine zF_iload_n 19 dX5_addFilm_18 rfl rfl ?_
      refine zF_aload_n 20 dX5_addFilm_19 rfl rfl ?_
      refine zF_iload_n 21 dX5_addFilm_20 rfl rfl ?_
      refine zF_callV 24 (d2 := (d + 2)) (as := [zI ((y : Nat) : Int)]) dX5_addFilm_21 rfl kX5_150 iX5_bestParting (ci := 5) rfl eX5_bestParting (Nat.le_refl _) hP2.1 hP2.2.1 rfl rfl (Nat.le_of_ble_eq_true rfl) (zE.mono (zt_X5_bestParting (S := y) y16 hP2 fb2 ab2) fun ro σx1 hh1 => ?_)
      obtain ⟨g1, er1, es1, bp1⟩ := hh1
      subst er1
      subst es1
      refine ⟨rfl, ?_⟩
      refine zF_iastore 25 dX5_addFilm_24 rfl (cB_410 hP2).2.2 (cB_410 hP2).2.1 (by omega) (by omega) ?_
      refine zF_iinc 28 (ls' := [(2, zI (((y : Nat) : Int) + (-1))), (0, zR (B 400)), (1, zI (((opn ch (nn N h)) : Nat) : Int))]) dX5_addFilm_25 rfl rfl rfl (by decide) rfl ?_
      refine zF_goto 2 dX5_addFilm_28 rfl ?_
      exact zF_locs (ls' := [(2, zI (((y : Nat) : Int) - 1)), (0, zR (B 400)), (1, zI (((opn ch (nn N h)) : Nat) : Int))]) ⟨zlI rfl (by first | rfl | omega | (push_cast; omega) | exact congrArg (_ + ·) (zbT (by assumption)) | exact congrArg (_ + ·) (zbF (by assumption)) | exact congrArg (_ + ·) (zbT (by omega)) | exact congrArg (_ + ·) (zbF (by omega)) | exact congrArg (_ + ·) (if_pos (by omega)).symm | exact congrArg (_ + ·) (if_neg (by omega)).symm | exact (if_pos (by omega)).symm | exact (if_neg (by omega)).symm | exact zsub_s (if_pos (by omega)).symm | exact zsub_s0 (if_neg (by omega)).symm | exact zadd0 (if_neg (by omega)).symm | exact zadd0 (zbF (by omega)) | exact (Int.sub_zero _).symm), rfl, rfl, trivial⟩ (ih2 y _ (by omega) (⟨by omega, zFr_si rfl fr2, afI_yes a2 hms (add_step hV hQ h0 (by omega) hf y16 hms fg ar (fun P => fr2.2.2.2.2.2 _ _ (fun q => absurd (hB.inj _ _ q) (by decide))) (fun R hR => (a2 R (by omega)).1 (by omega)) bp1)⟩))
theorem zt_X5_search {h : Int} {lim ch : Int → Int} (hB : cM σ B) (hP : cPr σ B) (hR : cR N σ B) (hV : mV N) (hQ : mC4 N) (h0 : 0 ≤ h) (h1 : h < N 0) (v : cPv N h lim ch σ B) (chr : ∀ k : Nat, k < nn N h → zrg (ch k)) (lr : ∀ f, 0 ≤ f → f < N 2 → zrg (lim f)) : zE G mX5_search (d + 5) [zR (B 400)] σ (fun ro σ1 => ∃ g, ro = .inl (some (zI g)) ∧ zFr (fun y _ => y = B 409 ∨ y = B 410) σ σ1 ∧ pMax N h lim ch g ∧ -1 ≤ g ∧ g ≤ 50000000) := by
  refine zE_of rfl (by simp [zcat]) (Nat.le_of_ble_eq_true rfl) ?_
  show zF G mX5_search (d + 5) 0 [(0, zR (B 400))] [] σ _
  have hb := hV.b
  have hn := hV.n
  have hnn := nn_eq hQ h
  have hf0 := nF_eq hV
  have ol : (opn ch (nn N h)) < 16 := msk_lt _ _
  refine zF_aload_n 1 dX5_search_0 rfl rfl ?_
  refine zF_bipush 3 dX5_search_1 rfl (by decide) ?_
  refine zF_callVi 6 (d2 := (d + 4)) (as := [zI (-2)]) dX5_search_3 rfl kX5_110 iX5_placesWith (ci := 5) rfl eX5_placesWith (Nat.le_refl _) hP.1 hP.2.1 rfl rfl (Nat.le_of_ble_eq_true rfl) ((zt_X5_placesWith (n := nn N h) hP v.2.1 hnn.2 (fun k hk => by rw [v.2.2.2.1 k hk]; exact chr k hk) (by first | decide | assumption | exact hb _ | (constructor <;> omega))).eq (by rw [tm_congr (u := ch) (fun k hk => v.2.2.2.1 k hk)])) ?_
  refine zF_istore_n 7 (ls' := [(1, zI ((tm ch (-2) (nn N h) : Nat) : Int)), (0, zR (B 400))]) dX5_search_6 rfl (by decide) rfl ?_
  refine zF_aload_n 8 dX5_search_7 rfl rfl ?_
  refine zF_getR 11 dX5_search_8 rfl gX5_27 hP.1 hP.2.1 (cB_410 hP).1 ?_
  refine zF_iconst 12 dX5_search_11 rfl ?_
  refine zF_callS 15 (d2 := (d + 4)) (as := [zR (B 410), zI (-1)]) dX5_search_12 rfl kX5_113 sJ7_fill_53178 (Nat.le_refl _) rfl rfl (Nat.le_of_ble_eq_true rfl) (zE.mono (zt_J7_fill (cB_410 hP).2.2 (cB_410 hP).2.1 (by decide)) fun ro σa1 hh1 => ?_)
  obtain ⟨er1, fr1, p1⟩ := hh1
  subst er1
  refine ⟨fr1.1, ?_⟩
  show zF G mX5_search (d + 5) 15 [(1, zI ((tm ch (-2) (nn N h) : Nat) : Int)), (0, zR (B 400))] [] σa1 _
  have hBx := cM_fr hB fr1
  have hPx := cPr_fr hP fr1
  refine zF_aload_n 16 dX5_search_15 rfl rfl ?_
  refine zF_getR 19 dX5_search_16 rfl gX5_27 hPx.1 hPx.2.1 (cB_410 hPx).1 ?_
  refine zF_iconst 20 dX5_search_19 rfl ?_
  refine zF_iconst 21 dX5_search_20 rfl ?_
  refine zF_iastore 22 dX5_search_21 rfl (cB_410 hPx).2.2 (cB_410 hPx).2.1 (by omega) (by omega) ?_
  refine zF_iconst 23 dX5_search_22 rfl ?_
  refine zF_istore_n 24 (ls' := [(2, zI 0), (1, zI ((tm ch (-2) (nn N h) : Nat) : Int)), (0, zR (B 400))]) dX5_search_23 rfl (by decide) rfl ?_
  refine zF_locs (ls' := [(2, zI ((0 : Nat) : Int)), (1, zI (((opn ch (nn N h)) : Nat) : Int)), (0, zR (B 400))]) ⟨zlI rfl (by first | rfl | omega | (push_cast; omega) | exact congrArg (_ + ·) (zbT (by assumption)) | exact congrArg (_ + ·) (zbF (by assumption)) | exact congrArg (_ + ·) (zbT (by omega)) | exact congrArg (_ + ·) (zbF (by omega)) | exact congrArg (_ + ·) (if_pos (by omega)).symm | exact congrArg (_ + ·) (if_neg (by omega)).symm | exact (if_pos (by omega)).symm | exact (if_neg (by omega)).symm | exact zsub_s (if_pos (by omega)).symm | exact zsub_s0 (if_neg (by omega)).symm | exact zadd0 (if_neg (by omega)).symm | exact zadd0 (zbF (by omega)) | exact (Int.sub_zero _).symm), zlI rfl (by first | rfl | omega | (push_cast; omega) | exact congrArg (_ + ·) (zbT (by assumption)) | exact congrArg (_ + ·) (zbF (by assumption)) | exact congrArg (_ + ·) (zbT (by omega)) | exact congrArg (_ + ·) (zbF (by omega)) | exact congrArg (_ + ·) (if_pos (by omega)).symm | exact congrArg (_ + ·) (if_neg (by omega)).symm | exact (if_pos (by omega)).symm | exact (if_neg (by omega)).symm | exact zsub_s (if_pos (by omega)).symm | exact zsub_s0 (if_neg (by omega)).symm | exact zadd0 (if_neg (by omega)).symm | exact zadd0 (zbF (by omega)) | exact (Int.sub_zero _).symm), rfl, trivial⟩ ?_
  refine zF_while (X := Nat) (fun x => nF N - x) (fun x σ2 => x ≤ nF N ∧ zFr (fun y _ => y = B 409 ∨ y = B 410) σ σ2 ∧ arM N h lim ch x σ2 B) (fun x => [(2, zI ((x : Nat) : Int)), (1, zI (((opn ch (nn N h)) : Nat) : Int)), (0, zR (B 400))]) ?_ 0 (zsi σa1 (B 410) 0 0) (⟨Nat.zero_le _, zFr_si (Or.inr rfl) (fr1.wk fun _ _ q => Or.inr q), ar_0 hnn.2 (fun R hR => by
      rw [zia_si]
      by_cases e : R = 0
      · rw [if_pos ⟨rfl, by omega⟩, if_pos e]
      · rw [if_neg (fun q => e (by have := q.2; omega)), if_neg e, p1 R (by omega) (by omega)])⟩)
  intro x σ2 hI24 ih24
  show zF G mX5_search (d + 5) 24 [(2, zI ((x : Nat) : Int)), (1, zI (((opn ch (nn N h)) : Nat) : Int)), (0, zR (B 400))] [] σ2 _
  obtain ⟨hx, frs, ar2⟩ := hI24
  have hB2 := cM_fr hB frs
  have hP2 := cPr_fr hP frs
  have hR2 := cR_fr hB frs (fun i j hi q => q.elim (fun q => by have := hB.inj _ _ q; omega) (fun q => by have := hB.inj _ _ q; omega)) hR
  have v2 := cPv_fr v frs (fun j => ⟨fun q => q.elim (fun q => absurd (hB.inj _ _ q) (by decide)) (fun q => absurd (hB.inj _ _ q) (by decide)), fun q => q.elim (fun q => absurd (hB.inj _ _ q) (by decide)) (fun q => absurd (hB.inj _ _ q) (by decide)), fun q => q.elim (fun q => absurd (hB.inj _ _ q) (by decide)) (fun q => absurd (hB.inj _ _ q) (by decide)), fun q => q.elim (fun q => absurd (hB.inj _ _ q) (by decide)) (fun q => absurd (hB.inj _ _ q) (by decide)), fun q => q.elim (fun q => absurd (hB.inj _ _ q) (by decide)) (fun q => absurd (hB.inj _ _ q) (by decide))⟩)
  refine zF_iload_n 25 dX5_search_24 rfl rfl ?_
  refine zF_aload_n 26 dX5_search_25 rfl rfl ?_
  refine zF_getR 29 dX5_search_26 rfl gX5_39 hP2.1 hP2.2.1 hP2.2.2.1 ?_
  refine zF_getI 32 dX5_search_29 rfl gX5_71 (by decide) (by decide) hB2.ch.1 hB2.ch.2.1 hR2.c.1.2.2 ?_
  refine zF_icmp_ge 52 35 dX5_search_32 rfl rfl (by first | decide | assumption | exact hb _ | (constructor <;> omega)) (by first | decide | assumption | exact hb _ | (constructor <;> omega)) (fun c1 => ?_) (fun c1 => ?_)
  · have arE : arM N h lim ch (nF N) σ2 B := by have ex : x = nF N := (by omega); rw [ex] at ar2; exact ar2
    refine zF_iconst 53 dX5_search_52 rfl ?_
    refine zF_istore_n 54 (ls' := [(2, zI (-1)), (1, zI (((opn ch (nn N h)) : Nat) : Int)), (0, zR (B 400))]) dX5_search_53 rfl (by decide) rfl ?_
    refine zF_iconst 55 dX5_search_54 rfl ?_
    refine zF_istore_n 56 (ls' := [(3, zI 0), (2, zI (-1)), (1, zI (((opn ch (nn N h)) : Nat) : Int)), (0, zR (B 400))]) dX5_search_55 rfl (by decide) rfl ?_
    refine zF_locs (ls' := [(3, zI ((0 : Nat) : Int)), (2, zI (-1)), (1, zI (((opn ch (nn N h)) : Nat) : Int)), (0, zR (B 400))]) ⟨zlI rfl (by first | rfl | omega | (push_cast; omega) | exact congrArg (_ + ·) (zbT (by assumption)) | exact congrArg (_ + ·) (zbF (by assumption)) | exact congrArg (_ + ·) (zbT (by omega)) | exact congrArg (_ + ·) (zbF (by omega)) | exact congrArg (_ + ·) (if_pos (by omega)).symm | exact congrArg (_ + ·) (if_neg (by omega)).symm | exact (if_pos (by omega)).symm | exact (if_neg (by omega)).symm | exact zsub_s (if_pos (by omega)).symm | exact zsub_s0 (if_neg (by omega)).symm | exact zadd0 (if_neg (by omega)).symm | exact zadd0 (zbF (by omega)) | exact (Int.sub_zero _).symm), rfl, rfl, rfl, trivial⟩ ?_
    refine zF_while (X := Int × Nat) (fun x => 16 - x.2) (fun x σ5 => x.2 ≤ 16 ∧ σ5 = σ2 ∧ mxI σ2 B x.2 x.1) (fun x => [(3, zI ((x.2 : Nat) : Int)), (2, zI x.1), (1, zI (((opn ch (nn N h)) : Nat) : Int)), (0, zR (B 400))]) ?_ (-1, 0) σ2 (⟨Nat.zero_le _, rfl, by show (-1 : Int) ≤ -1; decide, by show (-1 : Int) ≤ 50000000; decide, fun S hS => absurd hS (Nat.not_lt_zero _), Or.inl rfl⟩)
    intro ⟨g, y⟩ σ5 hI56 ih56
    show zF G mX5_search (d + 5) 56 [(3, zI ((y : Nat) : Int)), (2, zI g), (1, zI (((opn ch (nn N h)) : Nat) : Int)), (0, zR (B 400))] [] σ5 _
    obtain ⟨hy, e5, m5⟩ := hI56
    dsimp only at hy m5
    subst e5
    have m50 := m5.1
    have m51 := m5.2.1
    refine zF_iload_n 57 dX5_search_56 rfl rfl ?_
    refine zF_bipush 59 dX5_search_57 rfl (by decide) ?_
    refine zF_icmp_ge 79 62 dX5_search_59 rfl rfl (by first | decide | assumption | exact hb _ | (constructor <;> omega)) (by first | decide | assumption | exact hb _ | (constructor <;> omega)) (fun c2 => ?_) (fun c2 => ?_)
    · refine zF_iload_n 80 dX5_search_79 rfl rfl ?_
      exact zF_ireturn dX5_search_80 rfl (⟨g, rfl, frs, mx_end hV hQ h0 (by omega) arE (by have ey : y = 16 := (by omega); rw [ey] at m5; exact m5)⟩)
    · have aby := arM_b hV hQ h0 (by omega) (R := y) (f := nF N) (Nat.le_refl _) arE (by omega)
      refine zF_iload_n 63 dX5_search_62 rfl rfl ?_
      refine zF_aload_n 64 dX5_search_63 rfl rfl ?_
      refine zF_getR 67 dX5_search_64 rfl gX5_27 hP2.1 hP2.2.1 (cB_410 hP2).1 ?_
      refine zF_iload_n 68 dX5_search_67 rfl rfl ?_
      refine zF_iaload 69 dX5_search_68 rfl (cB_410 hP2).2.2 (cB_410 hP2).2.1 (by omega) (by omega) rfl ?_
      refine zF_max 72 dX5_search_69 rfl kX5_125 (Nat.le_refl _) (by first | decide | assumption | exact hb _ | (constructor <;> omega)) (by first | decide | assumption | exact hb _ | (constructor <;> omega)) (Nat.le_of_ble_eq_true rfl) ?_
      refine zF_istore_n 73 (ls' := [(2, zI (max g (zia σ5 (B 410) ((y : Nat) : Int)))), (3, zI ((y : Nat) : Int)), (1, zI (((opn ch (nn N h)) : Nat) : Int)), (0, zR (B 400))]) dX5_search_72 rfl (by decide) rfl ?_
      refine zF_iinc 76 (ls' := [(3, zI (((y : Nat) : Int) + 1)), (2, zI (max g (zia σ5 (B 410) ((y : Nat) : Int)))), (1, zI (((opn ch (nn N h)) : Nat) : Int)), (0, zR (B 400))]) dX5_search_73 rfl rfl rfl (by decide) rfl ?_
      refine zF_goto 56 dX5_search_76 rfl ?_
      exact zF_locs (ls' := [(3, zI (((y + 1) : Nat) : Int)), (2, zI (max g (zia σ5 (B 410) ((y : Nat) : Int)))), (1, zI (((opn ch (nn N h)) : Nat) : Int)), (0, zR (B 400))]) ⟨zlI rfl (by first | rfl | omega | (push_cast; omega) | exact congrArg (_ + ·) (zbT (by assumption)) | exact congrArg (_ + ·) (zbF (by assumption)) | exact congrArg (_ + ·) (zbT (by omega)) | exact congrArg (_ + ·) (zbF (by omega)) | exact congrArg (_ + ·) (if_pos (by omega)).symm | exact congrArg (_ + ·) (if_neg (by omega)).symm | exact (if_pos (by omega)).symm | exact (if_neg (by omega)).symm | exact zsub_s (if_pos (by omega)).symm | exact zsub_s0 (if_neg (by omega)).symm | exact zadd0 (if_neg (by omega)).symm | exact zadd0 (zbF (by omega)) | exact (Int.sub_zero _).symm), rfl, rfl, rfl, trivial⟩ (ih56 ((max g (zia σ5 (B 410) ((y : Nat) : Int))), (y + 1)) _ (by show 16 - (y + 1) < 16 - y; omega) (⟨by show y + 1 ≤ 16; omega, rfl, mxI_s m5 (by omega) aby.2 rfl⟩))
  · refine zF_aload_n 36 dX5_search_35 rfl rfl ?_
    refine zF_iload_n 37 dX5_search_36 rfl rfl ?_
    refine zF_iload_n 38 dX5_search_37 rfl rfl ?_
    refine zF_callV 41 (d2 := (d + 4)) (as := [zI ((x : Nat) : Int), zI (((opn ch (nn N h)) : Nat) : Int)]) dX5_search_38 rfl kX5_119 iX5_findFilmGains (ci := 5) rfl eX5_findFilmGains (Nat.le_refl _) hP2.1 hP2.2.1 rfl rfl (Nat.le_of_ble_eq_true rfl) (zE.mono (zt_X5_findFilmGains (fn := x) hB2 hP2 hR2 hV hQ h0 h1 v2 chr (by omega) lr) fun ro σa2 hh2 => ?_)
    obtain ⟨er2, fr2, p2⟩ := hh2
    subst er2
    refine ⟨fr2.1, ?_⟩
    show zF G mX5_search (d + 5) 41 [(2, zI ((x : Nat) : Int)), (1, zI (((opn ch (nn N h)) : Nat) : Int)), (0, zR (B 400))] [] σa2 _
    have frA := frs.tr (fr2.wk (P' := (fun y _ => y = B 409 ∨ y = B 410)) fun _ _ q => Or.inl q)
    have hB3 := cM_fr hB frA
    have hP3 := cPr_fr hP frA
    have hR3 := cR_fr hB frA (fun i j hi q => q.elim (fun q => by have := hB.inj _ _ q; omega) (fun q => by have := hB.inj _ _ q; omega)) hR
    have v3 := cPv_fr v frA (fun j => ⟨fun q => q.elim (fun q => absurd (hB.inj _ _ q) (by decide)) (fun q => absurd (hB.inj _ _ q) (by decide)), fun q => q.elim (fun q => absurd (hB.inj _ _ q) (by decide)) (fun q => absurd (hB.inj _ _ q) (by decide)), fun q => q.elim (fun q => absurd (hB.inj _ _ q) (by decide)) (fun q => absurd (hB.inj _ _ q) (by decide)), fun q => q.elim (fun q => absurd (hB.inj _ _ q) (by decide)) (fun q => absurd (hB.inj _ _ q) (by decide)), fun q => q.elim (fun q => absurd (hB.inj _ _ q) (by decide)) (fun q => absurd (hB.inj _ _ q) (by decide))⟩)
    have ar3 : arM N h lim ch x σa2 B := fun R hR => by rw [show zia σa2 (B 410) R = zia σ2 (B 410) R from fr2.2.2.2.2.2 _ _ (fun q => absurd (hB.inj _ _ q) (by decide))]; exact ar2 R hR
    refine zF_aload_n 42 dX5_search_41 rfl rfl ?_
    refine zF_iload_n 43 dX5_search_42 rfl rfl ?_
    refine zF_callV 46 (d2 := (d + 4)) (as := [zI (((opn ch (nn N h)) : Nat) : Int)]) dX5_search_43 rfl kX5_122 iX5_addFilm (ci := 5) rfl eX5_addFilm (Nat.le_refl _) hP3.1 hP3.2.1 rfl rfl (Nat.le_of_ble_eq_true rfl) (zE.mono (zt_X5_addFilm (fn := x) hB3 hP3 hR3 hV hQ h0 h1 v3 chr (by omega) p2 ar3) fun ro σa3 hh3 => ?_)
    obtain ⟨er3, fr3, p3⟩ := hh3
    subst er3
    refine ⟨fr3.1, ?_⟩
    show zF G mX5_search (d + 5) 46 [(2, zI ((x : Nat) : Int)), (1, zI (((opn ch (nn N h)) : Nat) : Int)), (0, zR (B 400))] [] σa3 _
    refine zF_iinc 49 (ls' := [(2, zI (((x : Nat) : Int) + 1)), (1, zI (((opn ch (nn N h)) : Nat) : Int)), (0, zR (B 400))]) dX5_search_46 rfl rfl rfl (by decide) rfl ?_
    refine zF_goto 24 dX5_search_49 rfl ?_
    exact zF_locs (ls' := [(2, zI (((x + 1) : Nat) : Int)), (1, zI (((opn ch (nn N h)) : Nat) : Int)), (0, zR (B 400))]) ⟨zlI rfl (by first | rfl | omega | (push_cast; omega) | exact congrArg (_ + ·) (zbT (by assumption)) | exact congrArg (_ + ·) (zbF (by assumption)) | exact congrArg (_ + ·) (zbT (by omega)) | exact congrArg (_ + ·) (zbF (by omega)) | exact congrArg (_ + ·) (if_pos (by omega)).symm | exact congrArg (_ + ·) (if_neg (by omega)).symm | exact (if_pos (by omega)).symm | exact (if_neg (by omega)).symm | exact zsub_s (if_pos (by omega)).symm | exact zsub_s0 (if_neg (by omega)).symm | exact zadd0 (if_neg (by omega)).symm | exact zadd0 (zbF (by omega)) | exact (Int.sub_zero _).symm), rfl, rfl, trivial⟩ (ih24 (x + 1) _ (by omega) (⟨by omega, frA.tr (fr3.wk fun _ _ q => Or.inr q), p3⟩))
end ZC12

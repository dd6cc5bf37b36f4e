/-! what the calls leave of what holds -/
section ZLI
variable {G : zG} {M : zMeth} {d pc : Nat} {σ σ1 : zMem} {P : Nat → Int → Prop} {S S1 S2 : zS} {Sn : Int → Int} {sf cc ep k v kI : Int} {t : Int → Int} {l : List Int} {vv cap n : Nat} {r ro : zRes}
theorem lMd.fr (f : zFr P σ σ1) (hp : ∀ k j, P (A0 k) j → 3 < k ∧ k ≠ 16 ∧ k ≠ 18) (hm : ∀ j, P 228 j → j ≠ 4 ∧ j ≠ 6 ∧ j ≠ 17 ∧ j ≠ 19 ∧ j ≠ 26) (h : lMd S Sn sf cc ep t l σ) : lMd S Sn sf cc ep t l σ1 := by
  have ea : ∀ k, ¬ (3 < k ∧ k ≠ 16 ∧ k ≠ 18) → zia σ1 (A0 k) = zia σ (A0 k) := fun k q => f.at fun j z => q (hp k j z)
  have em : ∀ j, ¬ (j ≠ 4 ∧ j ≠ 6 ∧ j ≠ 17 ∧ j ≠ 19 ∧ j ≠ 26) → zia σ1 228 j = zia σ 228 j := fun j q => f.2.2.2.2.2 _ _ fun z => q (hm j z)
  obtain ⟨⟨⟨a1, a2, a3⟩, a4, a5, a6⟩, ⟨b1, b2, b3⟩, c1, c2⟩ := h
  refine ⟨⟨⟨(ea 0 (by omega)).trans a1, (em _ (by omega)).trans a2, mHr_fr a3 f fun j z => by have := hp 3 j z; omega⟩, (em _ (by omega)).trans a4, fun q => (snap_fr f fun j z => by have := hp 2 j z; omega).trans (a5 q), fun j => by rw [ea 1 (by omega)]; exact a6 j⟩, ⟨(em _ (by omega)).trans b1, (em _ (by omega)).trans b2, fun j x y => by rw [ea 18 (by omega)]; exact b3 j x y⟩, (em _ (by omega)).trans c1, fun j hj => by rw [ea 16 (by omega)]; exact c2 j hj⟩
/-- frames of one side -/
def fB (P : Nat → Int → Prop) : Prop := ∀ h j, P h j → ∃ k, h = B0 k
def fM (P : Nat → Int → Prop) : Prop := ∀ h j, P h j → h = 228 ∨ ∃ k, h = A0 k
theorem lMd.fB (q : fB P) (f : zFr P σ σ1) (h : lMd S Sn sf cc ep t l σ) : lMd S Sn sf cc ep t l σ1 := h.fr f (fun k j z => by
  obtain ⟨i, e⟩ := q _ _ z
  exact absurd e (A0_B0 k i)) (fun j z => by
  obtain ⟨i, e⟩ := q _ _ z
  exact absurd e.symm (B0_228 i))
theorem lCl.fM (s : lSh σ) (hv : lVv vv) (q : fM P) (f : zFr P σ σ1) (h : lCl S Sn sf cc ep t l vv cap σ) : lCl S Sn sf cc ep t l vv cap σ1 := h.fr s f (fun k j z => by
  rcases q _ _ z with e | ⟨i, e⟩
  · exact absurd e (B0_228 k)
  · exact absurd e.symm (A0_B0 i k)) (fun j z => by
  rcases q _ _ z with e | ⟨i, e⟩
  · exact absurd e hv.m.1
  · exact absurd e.symm (hv.a i))
theorem zFr_o (σ : zMem) (j v : Int) : zFr (fun h _ => h = 245) σ (zsi σ 245 j v) := zFr_si rfl zFr.rf
theorem lMd.o {j v : Int} (h : lMd S Sn sf cc ep t l σ) : lMd S Sn sf cc ep t l (zsi σ 245 j v) := h.fr (zFr_o σ j v) (fun k j z => absurd z (A0_245 k)) (fun j z => absurd z (by decide))
theorem lCl.o {j v : Int} (s : lSh σ) (hv : lVv vv) (h : lCl S Sn sf cc ep t l vv cap σ) : lCl S Sn sf cc ep t l vv cap (zsi σ 245 j v) := h.fr s (zFr_o σ j v) (fun k j z => absurd z (B0_245 k)) (fun j z => absurd z hv.m.2)
theorem lMd.us {a b : Nat} (h : lMd S Sn sf cc ep t l σ) : lMd S Sn sf cc ep t l (zus σ a b) := h
theorem lCl.us {a b : Nat} (h : lCl S Sn sf cc ep t l vv cap σ) : lCl S Sn sf cc ep t l vv cap (zus σ a b) := h
theorem lSh.us {a b : Nat} (h : lSh σ) : lSh (zus σ a b) := h
theorem lSh.o {j v : Int} (h : lSh σ) : lSh (zsi σ 245 j v) := h
theorem lB.o {j v : Int} (h : lB n σ) : lB n (zsi σ 245 j v) := h
theorem fB_sc : fB (cSc B0) := fun h j z => by
  obtain ⟨⟨i, e, _⟩, _⟩ := z
  exact ⟨i, e⟩
theorem fB_rg {a b : Nat} {h : Nat} {j : Int} (z : zRg a b B0 h j) : ∃ k, h = B0 k := by
  obtain ⟨i, _, _, e⟩ := z
  exact ⟨i, e⟩
theorem fB_mu : fB (cMu B0) := fun h j z => by
  rcases z with ⟨z, _⟩ | ⟨z, _⟩ | z
  · exact fB_rg z
  · exact ⟨600, z⟩
  · exact fB_rg z
theorem fM_sc : fM (mSc 228 A0) := fun h j z => by
  rcases z with ⟨e, _⟩ | e | e | e | e | e | e | e
  · exact Or.inl e
  · exact Or.inr ⟨_, e⟩
  · exact Or.inr ⟨_, e⟩
  · exact Or.inr ⟨_, e⟩
  · exact Or.inr ⟨_, e⟩
  · exact Or.inr ⟨_, e⟩
  · exact Or.inr ⟨_, e⟩
  · exact Or.inr ⟨_, e⟩
theorem fM_mu : fM (mMu 228 A0) := fun h j z => by
  rcases z with ⟨e, _⟩ | ⟨e, _⟩ | ⟨k, _, e⟩
  · exact Or.inl e
  · exact Or.inl e
  · exact Or.inr ⟨_, e⟩
/-- a question's scratch -/
theorem lCl.sc (s : lSh σ) (hv : lVv vv) (f : zFr (cSc B0) σ σ1) (h : lCl S Sn sf cc ep t l vv cap σ) : lCl S Sn sf cc ep t l vv cap σ1 := h.fr s f (fun k j z => by
  obtain ⟨⟨i, e, b⟩, c⟩ := z
  have := B0_inj _ _ e
  subst this
  refine Or.inr (Or.inl ⟨by omega, by omega, fun q => c ⟨by rw [q.1], q.2⟩⟩)) (fun j z => by
  obtain ⟨⟨i, e, b⟩, c⟩ := z
  exact hv.b i e.symm)
theorem lMd.sc (f : zFr (mSc 228 A0) σ σ1) (h : lMd S Sn sf cc ep t l σ) : lMd S Sn sf cc ep t l σ1 := h.fr f (fun k j z => by
  rcases z with ⟨e, _⟩ | e | e | e | e | e | e | e
  · exact absurd e (A0_228 k)
  all_goals (have := A0_inj _ _ e; omega)) (fun j z => by
  rcases z with ⟨_, e⟩ | e | e | e | e | e | e | e
  · omega
  all_goals exact absurd e.symm (A0_228 _))
/-- a change -/
theorem lCl.mu (hv : lVv vv) (f : zFr (cMu B0) σ σ1) (hc : cST S1 σ1 B0) (h : lCl S Sn sf cc ep t l vv cap σ) : lCl S1 Sn sf cc ep t l vv cap σ1 := by
  have z : ∀ k j, cMu B0 (B0 k) j → (200 ≤ k ∧ k < 600 ∧ ¬ (k = 408 ∧ j = 0)) ∨ (k = 600 ∧ (j = 1 ∨ j = 2)) ∨ (1000 ≤ k ∧ k < 2000) := fun k j q => by
    rcases q with ⟨⟨i, a, b, e⟩, c⟩ | ⟨e, c⟩ | ⟨i, a, b, e⟩
    · have := B0_inj _ _ e
      subst this
      exact Or.inl ⟨a, b, fun q => c ⟨by rw [q.1], q.2⟩⟩
    · exact Or.inr (Or.inl ⟨B0_inj _ _ e, c⟩)
    · have := B0_inj _ _ e
      omega
  have zv : ∀ j, ¬ cMu B0 vv j := fun j q => by
    obtain ⟨k, e⟩ := fB_mu _ _ q
    exact hv.b k e.symm
  refine ⟨lC_st f (fun k j a b q => by have := z k j q; omega) (fun q => by have := z _ _ q; omega) (fun q => by have := z _ _ q; omega) hc h.1, lTc_fr f (fun q => by have := z _ _ q; omega) (fun q => by have := z _ _ q; omega) (fun j q => by have := z _ _ q; omega) h.2.1, sbI_fr f (fun j q => by have := z _ _ q; omega) zv h.2.2⟩
theorem mAr_k : ∀ k ∈ mAr, k = 0 ∨ k = 3 ∨ (3 < k ∧ k ≠ 16 ∧ k ≠ 18) := by decide
theorem lMd.mu (f : zFr (mMu 228 A0) σ σ1) (hc : mST S1 σ1 228 A0) (h : lMd S Sn sf cc ep t l σ) : lMd S1 Sn sf cc ep t l σ1 := by
  have za : ∀ k j, mMu 228 A0 (A0 k) j → k = 0 ∨ k = 3 ∨ (3 < k ∧ k ≠ 16 ∧ k ≠ 18) := fun k j q => by
    rcases q with ⟨e, _⟩ | ⟨e, _⟩ | ⟨i, a, e⟩
    · exact absurd e (A0_228 k)
    · exact absurd e (A0_228 k)
    · have := A0_inj _ _ e
      subst this
      exact mAr_k _ a
  have zm : ∀ j, mMu 228 A0 228 j → j = 5 ∨ j = 4 ∨ j = 12 ∨ j = 13 := fun j q => by
    rcases q with ⟨_, e⟩ | ⟨_, e⟩ | ⟨i, a, e⟩
    · omega
    · omega
    · exact absurd e.symm (A0_228 i)
  have ea : ∀ k, ¬ (k = 0 ∨ k = 3 ∨ (3 < k ∧ k ≠ 16 ∧ k ≠ 18)) → zia σ1 (A0 k) = zia σ (A0 k) := fun k q => f.at fun j z => q (za k j z)
  have em : ∀ j, ¬ (j = 5 ∨ j = 4 ∨ j = 12 ∨ j = 13) → zia σ1 228 j = zia σ 228 j := fun j q => f.2.2.2.2.2 _ _ fun z => q (zm j z)
  obtain ⟨⟨-, a4, a5, a6⟩, ⟨b1, b2, b3⟩, c1, c2⟩ := h
  refine ⟨⟨hc, (em _ (by omega)).trans a4, fun q => (snap_fr f fun j z => by have := za 2 j z; omega).trans (a5 q), fun j => by rw [ea 1 (by omega)]; exact a6 j⟩, ⟨(em _ (by omega)).trans b1, (em _ (by omega)).trans b2, fun j x y => by rw [ea 18 (by omega)]; exact b3 j x y⟩, (em _ (by omega)).trans c1, fun j hj => by rw [ea 16 (by omega)]; exact c2 j hj⟩
/-- the code that a helper gives -/
def lkc (k kI : Int) : Int := if k = 2 then kI else k
theorem zop_cop (h : zop k v σ r σ1) : cop k v B0 σ r σ1 := h.imp (fun h => ⟨h.1, h.2.1, by rw [h.2.2]; exact zFr.rf⟩) id
theorem o_at (σ : zMem) (v : Int) : zia (zsi σ 245 0 v) 245 0 = v := zsi_same _ _ _ _
/-- a helper's question -/
theorem lq_cop (hn : n < 512) (J : lJ n S Sn sf cc ep t l vv cap σ) (h : lP (cop k v B0 σ) 245 kI ro σ1) : ro = .inl (some (zI (lkc k kI))) ∧ (k = 0 → zia σ1 245 0 = zw32 v) ∧ (lSh σ1 ∧ lB (n + 1) σ1) ∧ lCl S Sn sf cc ep t l vv cap σ1 ∧ lMd S Sn sf cc ep t l σ1 := by
  obtain ⟨⟨hs, hb, hv⟩, -, hc, hm⟩ := J
  obtain ⟨r, σ2, hr, hp⟩ := h
  rcases hr with ⟨e, er, f⟩ | ⟨e, er, f⟩ | ⟨e, er, f⟩ <;> subst e <;> subst er
  · rcases hp with ⟨w, e1, e2, e3⟩ | ⟨e1, _⟩ | ⟨e1, _⟩
    · have ew : v = w := by injection e1 with e1; injection e1 with e1; injection e1
      subst ew
      subst e3
      have s2 := hs.fr f
      exact ⟨e2, fun _ => o_at _ _, ⟨s2.o, ((hb.fr f).up hn).o⟩, (hc.sc hs hv f).o s2 hv, (hm.fB fB_sc f).o⟩
    · cases e1
    · cases e1
  · subst f
    rcases hp with ⟨w, e1, e2, e3⟩ | ⟨e1, e2, e3⟩ | ⟨e1, _⟩
    · cases e1
    · subst e3
      exact ⟨e2, fun q => by omega, ⟨hs.us, hb.us hn⟩, hc.us, hm.us⟩
    · exact absurd e1 (by decide)
  · subst f
    rcases hp with ⟨w, e1, e2, e3⟩ | ⟨e1, _⟩ | ⟨e1, e2, e3⟩
    · cases e1
    · exact absurd e1 (by decide)
    · subst e3
      exact ⟨e2, fun q => by omega, ⟨hs.us, hb.us hn⟩, hc.us, hm.us⟩
theorem lq_copM (hn : n < 512) (J : lJ n S Sn sf cc ep t l vv cap σ) (h : lP (copM k v S1 B0 σ) 245 kI ro σ1) : ro = .inl (some (zI (lkc k kI))) ∧ (k = 0 → zia σ1 245 0 = zw32 v) ∧ (lSh σ1 ∧ lB (n + 1) σ1) ∧ lCl (if k = 0 then S1 else S) Sn sf cc ep t l vv cap σ1 ∧ lMd S Sn sf cc ep t l σ1 := by
  obtain ⟨⟨hs, hb, hv⟩, -, hc, hm⟩ := J
  obtain ⟨r, σ2, hr, hp⟩ := h
  rcases hr with ⟨e, er, f, q⟩ | ⟨e, er, f⟩ | ⟨e, er, f⟩ <;> subst e <;> subst er
  · rcases hp with ⟨w, e1, e2, e3⟩ | ⟨e1, _⟩ | ⟨e1, _⟩
    · have ew : v = w := by injection e1 with e1; injection e1 with e1; injection e1
      subst ew
      subst e3
      have s2 := hs.fr f
      exact ⟨e2, fun _ => o_at _ _, ⟨s2.o, ((hb.fr f).up hn).o⟩, (hc.mu hv f q).o s2 hv, (hm.fB fB_mu f).o⟩
    · cases e1
    · cases e1
  · subst f
    rcases hp with ⟨w, e1, e2, e3⟩ | ⟨e1, e2, e3⟩ | ⟨e1, _⟩
    · cases e1
    · subst e3
      exact ⟨e2, fun q => by omega, ⟨hs.us, hb.us hn⟩, hc.us, hm.us⟩
    · exact absurd e1 (by decide)
  · subst f
    rcases hp with ⟨w, e1, e2, e3⟩ | ⟨e1, _⟩ | ⟨e1, e2, e3⟩
    · cases e1
    · exact absurd e1 (by decide)
    · subst e3
      exact ⟨e2, fun q => by omega, ⟨hs.us, hb.us hn⟩, hc.us, hm.us⟩
theorem fM_245 (q : fM P) (j : Int) : ¬ P 245 j := fun z => by
  rcases q _ _ z with e | ⟨i, e⟩
  · exact absurd e (by decide)
  · exact absurd e.symm (A0_245 i)
/-- the reference's question -/
theorem lq_mop (hs : lSh σ) (hb : lB n σ) (hv : lVv vv) (hc : lCl S1 Sn sf cc ep t l vv cap σ) (hm : lMd S Sn sf cc ep t l σ) (h : mop k v 228 A0 σ r σ1) : ∃ x, r = .inl (some (zI x)) ∧ zn σ1 = zn σ ∧ zia σ1 228 ((5 : Nat) : Int) = k ∧ (k = 0 → x = v) ∧ zia σ1 245 = zia σ 245 ∧ (lSh σ1 ∧ lB n σ1) ∧ lCl S1 Sn sf cc ep t l vv cap σ1 ∧ lMd S Sn sf cc ep t l σ1 := by
  obtain ⟨x, e, f, a, b⟩ := h
  exact ⟨x, e, f.1, a, b, f.at (fM_245 fM_sc), ⟨hs.fr f, hb.fr f⟩, hc.fM hs hv fM_sc f, hm.sc f⟩
theorem lq_mopM (hs : lSh σ) (hb : lB n σ) (hv : lVv vv) (hc : lCl S1 Sn sf cc ep t l vv cap σ) (hm : lMd S Sn sf cc ep t l σ) (h : mopM k v S S2 228 A0 σ r σ1) : ∃ x, r = .inl (some (zI x)) ∧ zn σ1 = zn σ ∧ zia σ1 228 ((5 : Nat) : Int) = k ∧ (k = 0 → x = v) ∧ zia σ1 245 = zia σ 245 ∧ (lSh σ1 ∧ lB n σ1) ∧ lCl S1 Sn sf cc ep t l vv cap σ1 ∧ lMd (if k = 0 then S2 else S) Sn sf cc ep t l σ1 := by
  obtain ⟨x, e, f, a, b, c⟩ := h
  exact ⟨x, e, f.1, a, b, f.at (fM_245 fM_mu), ⟨hs.fr f, hb.fr f⟩, hc.fM hs hv fM_mu f, hm.mu f c⟩
end ZLI

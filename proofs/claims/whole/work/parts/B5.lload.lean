/-! the law's load and query -/
section ZLW
variable {G : zG} {d n L : Nat} {xs : Nat → Int32} {σ σ1 : zMem} {Q : zRes → zMem → Prop} {i k v T : Int} {S S1 S2 : zS} {N Sn f : Int → Int} {sf cc ep ep1 : Int} {t : Int → Int} {l : List Int} {vv vv1 cap cap1 : Nat} {r ro : zRes} {P : Nat → Int → Prop}
def QLd (t : Int → Int) (L : Nat) (f : Int → Int) (σ : zMem) (ro : zRes) (σ1 : zMem) : Prop := ∃ k, ldT t L ((0, 0), zcz f) k ∧ zFr (PLc B0) σ σ1 ∧ zia σ1 (B0 0) ((1 : Nat) : Int) = 0 ∧ zia σ1 (B0 0) ((2 : Nat) : Int) = (if (ldI t L ((0, 0), zcz f) k).1.2 = 0 then -1 else ((tbg t L (ldI t L ((0, 0), zcz f) k).1.1 : Nat) : Int)) ∧ (((ldI t L ((0, 0), zcz f) k).1.2 = 0 ∧ ro = .inl (some (zI ((ldI t L ((0, 0), zcz f) k).2 1))) ∧ ldV (ldI t L ((0, 0), zcz f) k).2 ∧ cR (ldN (ldI t L ((0, 0), zcz f) k).2) σ1 B0 ∧ zia σ1 (B0 600) ((2 : Nat) : Int) = 0 ∧ zia σ1 (B0 600) ((4 : Nat) : Int) = 0) ∨ ((ldI t L ((0, 0), zcz f) k).1.2 ≠ 0 ∧ ro = .inl (some (zI (-10 - (ldI t L ((0, 0), zcz f) k).1.2))) ∧ zFr (PLe B0) σ σ1))
def lEp (t : Int → Int) (L : Nat) (s : tS) : Int := if s.2 = 0 then -1 else ((tbg t L s.1 : Nat) : Int)
theorem PLc_k {k : Nat} {j : Int} (q : PLc B0 (B0 k) j) : k = 20 ∨ (2100 ≤ k ∧ k < 2216) ∨ (k = 0 ∧ (j = 1 ∨ j = 2)) ∨ (100 ≤ k ∧ k < 216) ∨ k = 302 ∨ (k = 600 ∧ (j = 2 ∨ j = 4)) := by
  rcases q with ((⟨e, _⟩ | ⟨i, a, b, e⟩) | ⟨e, c⟩) | ⟨i, a, b, e⟩ | ⟨i, a, b, e⟩ | ⟨e, c⟩ <;> have := B0_inj _ _ e <;> omega
theorem PLe_k {k : Nat} {j : Int} (q : PLe B0 (B0 k) j) : k = 20 ∨ (2100 ≤ k ∧ k < 2216) ∨ (k = 0 ∧ (j = 1 ∨ j = 2)) := by
  rcases q with (⟨e, _⟩ | ⟨i, a, b, e⟩) | ⟨e, c⟩ <;> have := B0_inj _ _ e <;> omega
theorem fB_ld : fB (PLc B0) := fun h j z => by
  rcases z with ((⟨e, _⟩ | ⟨i, a, b, e⟩) | ⟨e, c⟩) | ⟨i, a, b, e⟩ | ⟨i, a, b, e⟩ | ⟨e, c⟩ <;> exact ⟨_, e⟩
theorem fB_le : fB (PLe B0) := fun h j z => fB_ld h j (Or.inl z)
theorem fB_v (q : fB P) (hv : lVv vv) (j : Int) : ¬ P vv j := fun z => by
  obtain ⟨k, e⟩ := q _ _ z
  exact hv.b k e.symm
theorem fB_A (q : fB P) (k : Nat) (j : Int) : ¬ P (A0 k) j := fun z => by
  obtain ⟨i, e⟩ := q _ _ z
  exact A0_B0 k i e
/-- a chain loaded -/
theorem lCl.ld {D : Int → Int} {H : Int → Int → Int} (hv : lVv vv) (g : zFr (PLc B0) σ σ1) (e1 : zia σ1 (B0 0) ((1 : Nat) : Int) = 0) (e2 : zia σ1 (B0 0) ((2 : Nat) : Int) = ep1) (hR : cR (ldN D) σ1 B0) (h2 : zia σ1 (B0 600) ((2 : Nat) : Int) = 0) (h4 : zia σ1 (B0 600) ((4 : Nat) : Int) = 0) (h : lCl S Sn sf cc ep t l vv cap σ) : lCl (ldN D, H, 0) Sn 0 0 ep1 t l vv cap σ1 := by
  have z : ∀ k j, ¬ (k = 20 ∨ (2100 ≤ k ∧ k < 2216) ∨ (k = 0 ∧ (j = 1 ∨ j = 2)) ∨ (100 ≤ k ∧ k < 216) ∨ k = 302 ∨ (k = 600 ∧ (j = 2 ∨ j = 4))) → ¬ PLc B0 (B0 k) j := fun k j a b => a (PLc_k b)
  obtain ⟨⟨⟨-, nx, b1, b2, b3, b4⟩, c1, -, -⟩, -, hI⟩ := h
  refine ⟨⟨⟨hR, nx, (g.2.2.2.2.2 _ _ (z _ _ (by decide))).trans b1, h2, ⟨b3.1, b3.2.1, by show (0 : Int) ≤ 0; decide, by show (0 : Int) ≤ 10; decide⟩, fun k k0 k1 => absurd k1 (by show ¬ k < 0; omega)⟩, (g.2.2.2.2.2 _ _ (z _ _ (by decide))).trans c1, h4, fun q => absurd rfl q⟩, ⟨e1, e2, fun j j0 j1 => absurd j1 (by omega)⟩, sbI_fr g (fun j => z _ _ (by omega)) (fB_v fB_ld hv) hI⟩
/-- a chain refused, or a query read -/
theorem lCl.le (hv : lVv vv) (hq : fB P) (hk : ∀ k j, P (B0 k) j → k = 20 ∨ (2100 ≤ k ∧ k < 2216) ∨ (k = 0 ∧ (j = 1 ∨ j = 2))) (g : zFr P σ σ1) (e1 : zia σ1 (B0 0) ((1 : Nat) : Int) = 0) (e2 : zia σ1 (B0 0) ((2 : Nat) : Int) = ep1) (h : lCl S Sn sf cc ep t l vv cap σ) : lCl S Sn sf 0 ep1 t l vv cap σ1 := by
  have z : ∀ k j, ¬ (k = 20 ∨ (2100 ≤ k ∧ k < 2216) ∨ (k = 0 ∧ (j = 1 ∨ j = 2))) → ¬ P (B0 k) j := fun k j a b => a (hk k j b)
  exact ⟨lC_fr g (fun k j a b => z _ _ (by omega)) (fun k j a b => z _ _ (by omega)) (z _ _ (by decide)) (z _ _ (by decide)) (z _ _ (by decide)) (z _ _ (by decide)) h.1, ⟨e1, e2, fun j j0 j1 => absurd j1 (by omega)⟩, sbI_fr g (fun j => z _ _ (by omega)) (fB_v hq hv) h.2.2⟩
theorem lQ_ld (hs : lSh σ) : ∀ r σ1, QLd t L f σ r σ1 → lQ σ 245 r σ1 := fun r σ1 h => by
  obtain ⟨k, _, g, _, _, ⟨_, e, _⟩ | ⟨_, e, _⟩⟩ := h
  · exact ⟨⟨(hs.fr g).ol, (hs.fr g).ok⟩, Or.inl ⟨_, e⟩⟩
  · exact ⟨⟨(hs.fr g).ol, (hs.fr g).ok⟩, Or.inl ⟨_, e⟩⟩
theorem nN_ld : ∀ σ1, ¬ QLd t L f σ (.inr eNSE) σ1 := fun σ1 h => by
  obtain ⟨k, _, g, _, _, ⟨_, e, _⟩ | ⟨_, e, _⟩⟩ := h <;> cases e
theorem lq_ld (hn : n < 512) (J : lJ n S Sn sf cc ep t l vv cap σ) (h : lP (QLd t L f σ) 245 1 ro σ1) : ro = .inl (some (zI 0)) ∧ (lSh σ1 ∧ lB (n + 1) σ1) ∧ zia σ1 (A0 1) = zia σ (A0 1) ∧ lMd S Sn sf cc ep t l σ1 ∧ ∃ k, ldT t L ((0, 0), zcz f) k ∧ (((ldI t L ((0, 0), zcz f) k).1.2 = 0 ∧ zia σ1 245 0 = zw32 ((ldI t L ((0, 0), zcz f) k).2 1) ∧ ldV (ldI t L ((0, 0), zcz f) k).2 ∧ lCl (ldN (ldI t L ((0, 0), zcz f) k).2, S.2.1, 0) Sn 0 0 (lEp t L (ldI t L ((0, 0), zcz f) k).1) t l vv cap σ1) ∨ ((ldI t L ((0, 0), zcz f) k).1.2 ≠ 0 ∧ zia σ1 245 0 = zw32 (-10 - (ldI t L ((0, 0), zcz f) k).1.2) ∧ lCl S Sn sf 0 (lEp t L (ldI t L ((0, 0), zcz f) k).1) t l vv cap σ1)) := by
  obtain ⟨⟨hs, hb, hv⟩, -, hc, hm⟩ := J
  obtain ⟨r, σ2, ⟨k, hT, g, q1, q2, hr⟩, hp⟩ := h
  have s2 := hs.fr g
  have b2 := (hb.fr g).up hn
  have m2 := hm.fB fB_ld g
  have a2 : zia σ2 (A0 1) = zia σ (A0 1) := g.at (fB_A fB_ld 1)
  have a3 : ∀ w, zia (zsi σ2 245 0 w) (A0 1) = zia σ (A0 1) := fun w => ((zFr_o σ2 0 w).at fun j z => A0_245 1 z).trans a2
  rcases hr with ⟨e, er, v1, v2, v3, v4⟩ | ⟨e, er, g2⟩ <;> subst er
  · rcases hp with ⟨w, w1, w2, w3⟩ | ⟨w1, _⟩ | ⟨w1, _⟩
    · have ew : (ldI t L ((0, 0), zcz f) k).2 1 = w := by injection w1 with w1; injection w1 with w1; injection w1
      subst ew
      subst w3
      exact ⟨w2, ⟨s2.o, b2.o⟩, a3 _, m2.o, k, hT, Or.inl ⟨e, o_at _ _, v1, (hc.ld hv g q1 q2 v2 v3 v4).o s2 hv⟩⟩
    · cases w1
    · cases w1
  · rcases hp with ⟨w, w1, w2, w3⟩ | ⟨w1, _⟩ | ⟨w1, _⟩
    · have ew : -10 - (ldI t L ((0, 0), zcz f) k).1.2 = w := by injection w1 with w1; injection w1 with w1; injection w1
      subst ew
      subst w3
      exact ⟨w2, ⟨s2.o, b2.o⟩, a3 _, m2.o, k, hT, Or.inr ⟨e, o_at _ _, (hc.le hv fB_le (fun _ _ q => PLe_k q) g2 q1 q2).o s2 hv⟩⟩
    · cases w1
    · cases w1
theorem mPq_k {k : Nat} {j : Int} (q : mPq 228 A0 (A0 k) j) : k = 1 ∨ (k = 0 ∧ 0 ≤ j ∧ j < 312) := by
  rcases q with (⟨e, _⟩ | ⟨e, _⟩) | ⟨e, _⟩ | ⟨e, c⟩
  · exact absurd e (A0_228 k)
  · exact Or.inl (A0_inj _ _ e)
  · exact absurd e (A0_228 k)
  · exact Or.inr ⟨A0_inj _ _ e, c⟩
theorem mPq_5 {j : Int} (q : mPq 228 A0 228 j) : (20 ≤ j ∧ j ≤ 27) ∨ j = 4 ∨ j = 5 ∨ j = 6 ∨ j = 19 := by
  rcases q with (⟨_, e⟩ | ⟨e, _⟩) | ⟨_, e⟩ | ⟨e, c⟩
  · omega
  · exact absurd e.symm (A0_228 _)
  · omega
  · exact absurd e.symm (A0_228 _)
theorem fM_pq : fM (mPq 228 A0) := fun h j z => by
  rcases z with (⟨e, _⟩ | ⟨e, _⟩) | ⟨e, _⟩ | ⟨e, c⟩
  · exact Or.inl e
  · exact Or.inr ⟨_, e⟩
  · exact Or.inl e
  · exact Or.inr ⟨_, e⟩
theorem fM_cp : fM (fun h _ => h = A0 1) := fun h j z => Or.inr ⟨1, z⟩
/-- the reference after a load: its draft brought into range -/
theorem lMd.lq {S3 : zS} {sf3 : Int} (g : zFr (mPq 228 A0) σ σ1) (h : lMd S Sn sf cc ep t l σ) (c0 : zia σ1 228 ((19 : Nat) : Int) = 0) (e0 : zia σ1 228 ((26 : Nat) : Int) = ep1) (hS : mST S3 σ1 228 A0) (h6 : zia σ1 228 ((6 : Nat) : Int) = sf3) (hf : sf3 ≠ 0 → sf ≠ 0) : lMd S3 Sn sf3 0 ep1 t l (zcp σ1 (A0 1)) := by
  have f3 := zcp_fr σ1 (A0 1)
  have e3 : ∀ k, k ≠ 1 → zia (zcp σ1 (A0 1)) (A0 k) = zia σ1 (A0 k) := fun k q => f3.at fun j z => q (A0_inj _ _ z)
  have em : zia (zcp σ1 (A0 1)) 228 = zia σ1 228 := f3.at fun j z => A0_228 1 z.symm
  have e1 : ∀ k, 1 < k → zia σ1 (A0 k) = zia σ (A0 k) := fun k q => g.at fun j z => by have := mPq_k z; omega
  obtain ⟨⟨-, a4, a5, a6⟩, -, c1, c2⟩ := h
  refine ⟨⟨?_, by rw [em]; exact h6, fun q => ?_, fun j => zcp_rg _ _ _⟩, ⟨by rw [em]; exact c0, by rw [em]; exact e0, fun j j0 j1 => absurd j1 (by omega)⟩, ?_, fun j hj => by rw [e3 16 (by decide), e1 16 (by decide)]; exact c2 j hj⟩
  · unfold mST mHr hrow at hS ⊢
    rw [e3 0 (by decide), e3 3 (by decide), em]
    exact hS
  · have := a5 (hf q)
    unfold snap at this ⊢
    rw [e3 2 (by decide), e1 2 (by decide)]
    exact this
  · rw [em]
    exact (g.2.2.2.2.2 _ _ fun z => by have := mPq_5 z; omega).trans c1
def QQr (N : Int → Int) (t : Int → Int) (L : Nat) (σ : zMem) (ro : zRes) (σ1 : zMem) : Prop := ro = .inl (some (zI (qAns N t L))) ∧ zFr (PQc B0) σ σ1 ∧ zia σ1 (B0 0) ((1 : Nat) : Int) = 0 ∧ zia σ1 (B0 0) ((2 : Nat) : Int) = (if (qE t L).2 = 0 then -1 else ((tbg t L (qE t L).1 : Nat) : Int))
theorem PQc_k {k : Nat} {j : Int} (q : PQc B0 (B0 k) j) : k = 20 ∨ (2100 ≤ k ∧ k < 2216) ∨ (k = 0 ∧ (j = 1 ∨ j = 2)) := by
  rcases q with ⟨e, _⟩ | ⟨e, c⟩ <;> have := B0_inj _ _ e <;> omega
theorem fB_qc : fB (PQc B0) := fun h j z => by
  rcases z with ⟨e, _⟩ | ⟨e, c⟩ <;> exact ⟨_, e⟩
theorem lQ_qr (hs : lSh σ) : ∀ r σ1, QQr N t L σ r σ1 → lQ σ 245 r σ1 := fun r σ1 h => ⟨⟨(hs.fr h.2.1).ol, (hs.fr h.2.1).ok⟩, Or.inl ⟨_, h.1⟩⟩
theorem nN_qr : ∀ σ1, ¬ QQr N t L σ (.inr eNSE) σ1 := fun σ1 h => by cases h.1
theorem lq_qr (hn : n < 512) (J : lJ n S Sn sf cc ep t l vv cap σ) (h : lP (QQr N t L σ) 245 1 ro σ1) : ro = .inl (some (zI 0)) ∧ (lSh σ1 ∧ lB (n + 1) σ1) ∧ zia σ1 245 0 = zw32 (qAns N t L) ∧ lMd S Sn sf cc ep t l σ1 ∧ lCl S Sn sf 0 (lEp t L (qE t L)) t l vv cap σ1 := by
  obtain ⟨⟨hs, hb, hv⟩, -, hc, hm⟩ := J
  obtain ⟨r, σ2, ⟨er, g, q1, q2⟩, hp⟩ := h
  subst er
  have s2 := hs.fr g
  rcases hp with ⟨w, w1, w2, w3⟩ | ⟨w1, _⟩ | ⟨w1, _⟩
  · have ew : qAns N t L = w := by injection w1 with w1; injection w1 with w1; injection w1
    subst ew
    subst w3
    exact ⟨w2, ⟨s2.o, ((hb.fr g).up hn).o⟩, o_at _ _, (hm.fB fB_qc g).o, (hc.le hv fB_qc (fun _ _ q => PQc_k q) g q1 q2).o s2 hv⟩
  · cases w1
  · cases w1
theorem mQu_k {k : Nat} {j : Int} (q : mQu 228 A0 (A0 k) j) : 3 < k ∧ k ≠ 16 ∧ k ≠ 18 := by
  rcases q with ((⟨e, _⟩ | ⟨e, _⟩ | e) | ⟨e, _⟩) | ⟨e, _⟩ | e | e | e
  · exact absurd e (A0_228 k)
  · exact absurd e (A0_228 k)
  · have := A0_inj _ _ e; omega
  · exact absurd e (A0_228 k)
  · exact absurd e (A0_228 k)
  all_goals (have := A0_inj _ _ e; omega)
theorem mQu_5 {j : Int} (q : mQu 228 A0 228 j) : (20 ≤ j ∧ j ≤ 27) ∨ j = 31 ∨ j = 5 ∨ j = 19 := by
  rcases q with ((⟨_, e⟩ | ⟨_, e⟩ | e) | ⟨_, e⟩) | ⟨_, e⟩ | e | e | e
  · omega
  · omega
  · exact absurd e.symm (A0_228 _)
  · omega
  · omega
  all_goals exact absurd e.symm (A0_228 _)
theorem fM_qu : fM (mQu 228 A0) := fun h j z => by
  rcases z with ((⟨e, _⟩ | ⟨e, _⟩ | e) | ⟨e, _⟩) | ⟨e, _⟩ | e | e | e <;> first | exact Or.inl e | exact Or.inr ⟨_, e⟩
theorem lMd.qu (g : zFr (mQu 228 A0) σ σ1) (h : lMd S Sn sf cc ep t l σ) (c0 : zia σ1 228 ((19 : Nat) : Int) = 0) (e0 : zia σ1 228 ((26 : Nat) : Int) = ep1) : lMd S Sn sf 0 ep1 t l σ1 := by
  have ea : ∀ k, ¬ (3 < k ∧ k ≠ 16 ∧ k ≠ 18) → zia σ1 (A0 k) = zia σ (A0 k) := fun k q => g.at fun j z => q (mQu_k z)
  have em : ∀ j, ¬ ((20 ≤ j ∧ j ≤ 27) ∨ j = 31 ∨ j = 5 ∨ j = 19) → zia σ1 228 j = zia σ 228 j := fun j q => g.2.2.2.2.2 _ _ fun z => q (mQu_5 z)
  obtain ⟨⟨⟨a1, a2, a3⟩, a4, a5, a6⟩, -, c1, c2⟩ := h
  exact ⟨⟨⟨(ea 0 (by decide)).trans a1, (em _ (by decide)).trans a2, mHr_fr a3 g fun j z => by have := mQu_k z; omega⟩, (em _ (by decide)).trans a4, fun q => (snap_fr g fun j z => by have := mQu_k z; omega).trans (a5 q), fun j => by rw [ea 1 (by decide)]; exact a6 j⟩, ⟨c0, e0, fun j j0 j1 => absurd j1 (by omega)⟩, (em _ (by decide)).trans c1, fun j hj => by rw [ea 16 (by decide)]; exact c2 j hj⟩
theorem lTt_0 : lTt 0 ep t := ⟨⟨by decide, by decide⟩, rfl, fun j j0 j1 => absurd j1 (by omega)⟩
theorem mop_bad (h : r = .inl (some (zI 0)) ∧ σ1 = zsi (zsi σ 228 ((5 : Nat) : Int) 0) 228 ((5 : Nat) : Int) 1) : mop 1 v 228 A0 σ r σ1 := by
  obtain ⟨a, b⟩ := h
  subst b
  exact ⟨0, a, zFr_si (Or.inl ⟨rfl, Or.inl rfl⟩) (zFr_si (Or.inl ⟨rfl, Or.inl rfl⟩) zFr.rf), zsi_same _ _ _ _, fun q => absurd q (by decide)⟩
theorem cop_bad (h : r = .inr eIAE ∧ σ1 = zus σ 1 6) : cop 2 v B0 σ r σ1 := Or.inr (Or.inr ⟨rfl, h.1, h.2⟩)
theorem nN_cop2 : ∀ σ1, ¬ cop 2 v B0 σ (.inr eNSE) σ1 := fun σ1 q => by
  rcases q with ⟨e, _⟩ | ⟨e, _⟩ | ⟨_, e, _⟩
  · exact absurd e (by decide)
  · exact absurd e (by decide)
  · exact absurd e (by decide)
theorem lw_load (hg : lGd G L xs) (i0 : 0 ≤ i) (i6 : i + 6 ≤ (L : Int)) (hn : n < 512) (J : lI n σ) (K : ∀ σ1, lI (n + 1) σ1 → zF G mL_law (d + 40) 2286 (lLs i) [] σ1 Q) : zF G mL_law (d + 40) 285 (lLs i) [] σ Q := by
  obtain ⟨S, Sn, sf, cc, ep, t, l, vv, cap, J⟩ := J
  obtain ⟨⟨hs, hb, hv⟩, ⟨hD, hT, hL⟩, hc, hm⟩ := id J
  obtain ⟨hGd, hG, hOD, hOP, hX, hNx⟩ := hg
  have gn := hD.gn
  have hR := hc.1.1.1
  have hc0 := hT.1
  show zF G mL_law (d + 40) 285 [(0, zR (zbg + 500)), (1, zR (B0 0)), (2, zR 228), (3, zR 245), (4, zI i)] [] σ _
  by_cases hq : 0 ≤ lx xs i 1 ∧ lx xs i 1 ≤ cc
  · obtain ⟨L1, hL1⟩ : ∃ L1 : Nat, lx xs i 1 = (L1 : Int) := ⟨(lx xs i 1).toNat, by omega⟩
    refine zF_aload_n 286 dL_law_285 rfl rfl ?_
    refine zF_aload_n 287 dL_law_286 rfl rfl ?_
    refine zF_iload 289 dL_law_287 rfl rfl ?_
    refine zF_iconst 290 dL_law_289 rfl ?_
    refine zF_iadd 291 dL_law_290 rfl ?_
    refine zF_sload 292 dL_law_291 rfl hX (by omega) (by omega) ?_
    refine zF_I hL1 ?_
    refine zF_aload_n 293 dL_law_292 rfl rfl ?_
    have ht : ∀ j : Int, 0 ≤ j → j < (L1 : Int) → zia σ (B0 10) j = t j ∧ -128 ≤ t j ∧ t j < 128 := fun j a b => ⟨hc.2.1.2.2 j a (by omega), hT.2.2 j a (by omega)⟩
    refine zF_callSH 296 (d2 := d + 39) (as := [zR (B0 0), zI ((L1 : Nat) : Int), zR 245]) (rest := []) dL_law_293 rfl kLH_load sL_load (by omega) rfl rfl (Nat.le_of_ble_eq_true rfl) ⟨zwO, zwR hs.bl, zwR hs.ml, zwR hs.ol, trivial, trivial⟩ trivial (zEH.mono (zl_load (d2 := d + 12) (by omega) hs.bk hs.bl hs.ol ((zt_X11_load (f := zia σ (A0 1)) hGd hG hs.cO hs.cCt (hs.tk (by omega) ht) hs.cHs hc.2.1.1 hT.1.2 (by omega) hm.1.2.2.2).mono fun _ _ h => (h : QLd t L1 (zia σ (A0 1)) σ _ _)) (lQ_ld hs) nN_ld) fun ro σ1 hh => ?_)
    obtain ⟨er, ⟨s1, b1⟩, a1, m1, k, hk, hcs⟩ := lq_ld hn J hh
    subst er
    refine ⟨_, rfl, ?_⟩
    show zF G _ _ _ _ [zI _] σ1 _
    refine zF_istore 298 (ls' := (5, zI _) :: lLs i) dL_law_296 rfl (by decide) rfl ?_
    have hN1 := m1.1.1.1
    refine zF_aload_n 299 dL_law_298 rfl rfl ?_
    refine zF_aload_n 300 dL_law_299 rfl rfl ?_
    refine zF_iload 302 dL_law_300 rfl rfl ?_
    refine zF_iconst 303 dL_law_302 rfl ?_
    refine zF_iadd 304 dL_law_303 rfl ?_
    refine zF_sload 305 dL_law_304 rfl hX (by omega) (by omega) ?_
    refine zF_I hL1 ?_
    have hx : mTx σ1 A0 t L1 := ⟨by omega, fun j a b => ⟨m1.2.1.2.2 j a (by omega), hT.2.2 j a (by omega)⟩⟩
    refine zF_callV 308 (d2 := d + 10) (as := [zI ((L1 : Nat) : Int)]) dL_law_305 rfl kLX12_load iX12_load (ci := 12) rfl eX12_load (by omega) s1.zMo.1 s1.zMo.2.1 rfl rfl (Nat.le_of_ble_eq_true rfl) (zE.mono (zt_X12_load hG s1.zMo hx m1.2.1.1 hT.1.2 (by omega) m1.1.2.2.2) fun r σ2 hh2 => ?_)
    obtain ⟨x, k2, er2, g, e5, c0, hk2, e26, hr⟩ := hh2
    subst er2
    refine ⟨g.1, ?_⟩
    show zF G _ _ _ _ [zI x] σ2 _
    rw [a1] at hk2 e26 hr
    have ek := ldT_u hk hk2
    subst ek
    have s2 := s1.fr g
    have b2 := b1.fr g
    have eo : zia σ2 245 = zia σ1 245 := g.at (fM_245 fM_pq)
    have f3 := zcp_fr σ2 (A0 1)
    refine zF_istore 310 (ls' := (6, zI _) :: (5, zI _) :: lLs i) dL_law_308 rfl (by decide) rfl ?_
    rcases hcs with ⟨z, ev, hv1, c1⟩ | ⟨z, ev, c1⟩
    · rw [if_pos z] at hr
      obtain ⟨hv2, ex, hcell, h4, h6⟩ := hr
      refine lw_tail 310 dL_law_310 dL_law_311 dL_law_314 dL_law_316 dL_law_321 dL_law_323 dL_law_326 dL_law_327 dL_law_328 dL_law_329 dL_law_331 dL_law_332 dL_law_333 dL_law_338 (by decide) lk3_0 rfl e5 (fun _ => (congrFun eo 0).trans ev) (fun _ => ex) s2 ?_
      have hS2 : mST (ldN (ldI t L1 ((0, 0), zcz (zia σ (A0 1))) k).2, S.2.1, 0) σ2 228 A0 := ⟨funext fun j => by
        show _ = ldN _ j
        unfold ldN
        split
        · rename_i q; exact hcell j q.1 q.2
        · rename_i q; exact (g.2.2.2.2.2 _ _ fun z => by have := mPq_k z; omega).trans ((congrFun hN1 j).trans (gn.q.2.2.2.2.2.2 j (by omega))), h4, fun y y0 y1 => absurd y1 (by show ¬ y < 0; omega)⟩
      exact zF_cp (A0 1) 312 s2.a1 (K _ ⟨_, Sn, 0, 0, _, t, l, vv, cap, ⟨s2.fr f3, b2.fr f3, hv⟩, ⟨lD_ld hv1 (by omega), lTt_0, hL⟩, (c1.fM s1 hv fM_pq g).fM s2 hv fM_cp f3, m1.lq g c0 e26 hS2 h6 (fun q => absurd rfl q)⟩)
    · rw [if_neg z] at hr
      obtain ⟨ex, h0, h4, h6⟩ := hr
      refine lw_tail 310 dL_law_310 dL_law_311 dL_law_314 dL_law_316 dL_law_321 dL_law_323 dL_law_326 dL_law_327 dL_law_328 dL_law_329 dL_law_331 dL_law_332 dL_law_333 dL_law_338 (by decide) lk3_0 rfl e5 (fun _ => (congrFun eo 0).trans ev) (fun _ => ex) s2 ?_
      have hS2 : mST S σ2 228 A0 := ⟨h0.trans hN1, h4.trans m1.1.1.2.1, mHr_fr m1.1.1.2.2 g fun j z => by have := mPq_k z; omega⟩
      exact zF_cp (A0 1) 312 s2.a1 (K _ ⟨S, Sn, sf, 0, _, t, l, vv, cap, ⟨s2.fr f3, b2.fr f3, hv⟩, ⟨hD.up (by push_cast; omega), lTt_0, hL⟩, (c1.fM s1 hv fM_pq g).fM s2 hv fM_cp f3, m1.lq g c0 e26 hS2 (h6.trans m1.1.2.1) id⟩)
  · refine zF_aload_n 286 dL_law_285 rfl rfl ?_
    refine zF_aload_n 287 dL_law_286 rfl rfl ?_
    refine zF_iload 289 dL_law_287 rfl rfl ?_
    refine zF_iconst 290 dL_law_289 rfl ?_
    refine zF_iadd 291 dL_law_290 rfl ?_
    refine zF_sload 292 dL_law_291 rfl hX (by omega) (by omega) ?_
    refine zF_aload_n 293 dL_law_292 rfl rfl ?_
    refine zF_callSH 296 (d2 := d + 39) (as := [zR (B0 0), zI (lx xs i 1), zR 245]) (rest := []) dL_law_293 rfl kLH_load sL_load (by omega) rfl rfl (Nat.le_of_ble_eq_true rfl) ⟨zwO, zwR hs.bl, zwR hs.ml, zwR hs.ol, trivial, trivial⟩ trivial (zEH.mono (zl_load (d2 := d + 12) (by omega) hs.bk hs.bl hs.ol ((zt_X11_load_bad hGd hs.cO hc.2.1.1 hT.1.1 hT.1.2 (zrg_x _) (fun z => hq ⟨z.1, z.2.2⟩)).mono fun _ _ h => cop_bad (v := 0) h) (lQ_cop hs) nN_cop2) fun ro σ1 hh => ?_)
    obtain ⟨er, ev, ⟨s1, b1⟩, c1, m1⟩ := lq_cop hn J hh
    subst er
    refine ⟨_, rfl, ?_⟩
    show zF G _ _ _ _ [zI _] σ1 _
    refine zF_istore 298 (ls' := (5, zI _) :: lLs i) dL_law_296 rfl (by decide) rfl ?_
    have hN1 := m1.1.1.1
    refine zF_aload_n 299 dL_law_298 rfl rfl ?_
    refine zF_aload_n 300 dL_law_299 rfl rfl ?_
    refine zF_iload 302 dL_law_300 rfl rfl ?_
    refine zF_iconst 303 dL_law_302 rfl ?_
    refine zF_iadd 304 dL_law_303 rfl ?_
    refine zF_sload 305 dL_law_304 rfl hX (by omega) (by omega) ?_
    refine zF_callV 308 (d2 := d + 10) (as := [zI (lx xs i 1)]) dL_law_305 rfl kLX12_load iX12_load (ci := 12) rfl eX12_load (by omega) s1.zMo.1 s1.zMo.2.1 rfl rfl (Nat.le_of_ble_eq_true rfl) (zE.mono (zt_X12_load_bad s1.zMo m1.2.1.1 hT.1.1 hT.1.2 (zrg_x _) hq) fun r σ2 hh2 => ?_)
    obtain ⟨x, er2, en, e5, ex, eo, ⟨s2, b2⟩, c2, m2⟩ := lq_mop (v := 0) s1 b1 hv c1 m1 (mop_bad hh2)
    subst er2
    refine ⟨en, ?_⟩
    show zF G _ _ _ _ [zI x] σ2 _
    refine zF_istore 310 (ls' := (6, zI _) :: (5, zI _) :: lLs i) dL_law_308 rfl (by decide) rfl ?_
    refine lw_tail 310 dL_law_310 dL_law_311 dL_law_314 dL_law_316 dL_law_321 dL_law_323 dL_law_326 dL_law_327 dL_law_328 dL_law_329 dL_law_331 dL_law_332 dL_law_333 dL_law_338 (by decide) lk3_1 rfl e5 (v := 0) (fun q => absurd q (by decide)) (fun q => absurd q (by decide)) s2 ?_
    exact K σ2 ⟨S, Sn, sf, cc, ep, t, l, vv, cap, ⟨s2, b2, hv⟩, ⟨hD.up (by push_cast; omega), hT, hL⟩, c2, m2⟩
theorem lw_query (hg : lGd G L xs) (i0 : 0 ≤ i) (i6 : i + 6 ≤ (L : Int)) (hn : n < 512) (J : lI n σ) (K : ∀ σ1, lI (n + 1) σ1 → zF G mL_law (d + 40) 2286 (lLs i) [] σ1 Q) : zF G mL_law (d + 40) 2230 (lLs i) [] σ Q := by
  obtain ⟨S, Sn, sf, cc, ep, t, l, vv, cap, J⟩ := J
  obtain ⟨⟨hs, hb, hv⟩, ⟨hD, hT, hL⟩, hc, hm⟩ := id J
  obtain ⟨hGd, hG, hOD, hOP, hX, hNx⟩ := hg
  have gn := hD.gn
  have hR := hc.1.1.1
  have hc0 := hT.1
  show zF G mL_law (d + 40) 2230 [(0, zR (zbg + 500)), (1, zR (B0 0)), (2, zR 228), (3, zR 245), (4, zI i)] [] σ _
  by_cases hq : 0 ≤ lx xs i 1 ∧ lx xs i 1 ≤ 200 ∧ lx xs i 1 ≤ cc
  · obtain ⟨L1, hL1⟩ : ∃ L1 : Nat, lx xs i 1 = (L1 : Int) := ⟨(lx xs i 1).toNat, by omega⟩
    refine zF_aload_n 2231 dL_law_2230 rfl rfl ?_
    refine zF_aload_n 2232 dL_law_2231 rfl rfl ?_
    refine zF_iload 2234 dL_law_2232 rfl rfl ?_
    refine zF_iconst 2235 dL_law_2234 rfl ?_
    refine zF_iadd 2236 dL_law_2235 rfl ?_
    refine zF_sload 2237 dL_law_2236 rfl hX (by omega) (by omega) ?_
    refine zF_I hL1 ?_
    refine zF_aload_n 2238 dL_law_2237 rfl rfl ?_
    have ht : ∀ j : Int, 0 ≤ j → j < (L1 : Int) → zia σ (B0 10) j = t j ∧ -128 ≤ t j ∧ t j < 128 := fun j a b => ⟨hc.2.1.2.2 j a (by omega), hT.2.2 j a (by omega)⟩
    refine zF_callSH 2241 (d2 := d + 39) (as := [zR (B0 0), zI ((L1 : Nat) : Int), zR 245]) (rest := []) dL_law_2238 rfl kLH_query sL_query (by omega) rfl rfl (Nat.le_of_ble_eq_true rfl) ⟨zwO, zwR hs.bl, zwR hs.ml, zwR hs.ol, trivial, trivial⟩ trivial (zEH.mono (zl_query (d2 := d + 23) (by omega) hs.bk hs.bl hs.ol ((zt_X11_query hGd hG hOP gn.v gn.w gn.x hs.cO hs.cQt hR (hs.tk (by omega) ht) hc.2.1.1 hT.1.2 (by omega) (by omega)).mono fun _ _ h => (h : QQr S.1 t L1 σ _ _)) (lQ_qr hs) nN_qr) fun ro σ1 hh => ?_)
    obtain ⟨er, ⟨s1, b1⟩, ev, m1, c1⟩ := lq_qr hn J hh
    subst er
    refine ⟨_, rfl, ?_⟩
    show zF G _ _ _ _ [zI _] σ1 _
    refine zF_istore 2243 (ls' := (5, zI _) :: lLs i) dL_law_2241 rfl (by decide) rfl ?_
    have hN1 := m1.1.1.1
    refine zF_aload_n 2244 dL_law_2243 rfl rfl ?_
    refine zF_aload_n 2245 dL_law_2244 rfl rfl ?_
    refine zF_iload 2247 dL_law_2245 rfl rfl ?_
    refine zF_iconst 2248 dL_law_2247 rfl ?_
    refine zF_iadd 2249 dL_law_2248 rfl ?_
    refine zF_sload 2250 dL_law_2249 rfl hX (by omega) (by omega) ?_
    refine zF_I hL1 ?_
    have hx : mTx σ1 A0 t L1 := ⟨by omega, fun j a b => ⟨m1.2.1.2.2 j a (by omega), hT.2.2 j a (by omega)⟩⟩
    refine zF_callV 2253 (d2 := d + 30) (as := [zI ((L1 : Nat) : Int)]) dL_law_2250 rfl kLX12_query iX12_query (ci := 12) rfl eX12_query (by omega) s1.zMo.1 s1.zMo.2.1 rfl rfl (Nat.le_of_ble_eq_true rfl) (zE.mono (zt_X12_query hG s1.zMo hN1 gn.v gn.w hx s1.mNm m1.2.1.1 hT.1.2 (by omega) (by omega)) fun r σ2 hh2 => ?_)
    obtain ⟨er2, g, e5, c0, e26⟩ := hh2
    subst er2
    refine ⟨g.1, ?_⟩
    show zF G _ _ _ _ [zI _] σ2 _
    have s2 := s1.fr g
    have b2 := b1.fr g
    have eo : zia σ2 245 = zia σ1 245 := g.at (fM_245 fM_qu)
    refine zF_istore 2255 (ls' := (6, zI _) :: (5, zI _) :: lLs i) dL_law_2253 rfl (by decide) rfl ?_
    refine lw_tail 2255 dL_law_2255 dL_law_2256 dL_law_2259 dL_law_2261 dL_law_2266 dL_law_2268 dL_law_2271 dL_law_2272 dL_law_2273 dL_law_2274 dL_law_2276 dL_law_2277 dL_law_2278 dL_law_2283 (by decide) lk3_0 rfl e5 (fun _ => (congrFun eo 0).trans ev) (fun _ => rfl) s2 ?_
    exact K _ ⟨S, Sn, sf, 0, _, t, l, vv, cap, ⟨s2, b2, hv⟩, ⟨hD.up (by push_cast; omega), lTt_0, hL⟩, c1.fM s1 hv fM_qu g, m1.qu g c0 e26⟩
  · refine zF_aload_n 2231 dL_law_2230 rfl rfl ?_
    refine zF_aload_n 2232 dL_law_2231 rfl rfl ?_
    refine zF_iload 2234 dL_law_2232 rfl rfl ?_
    refine zF_iconst 2235 dL_law_2234 rfl ?_
    refine zF_iadd 2236 dL_law_2235 rfl ?_
    refine zF_sload 2237 dL_law_2236 rfl hX (by omega) (by omega) ?_
    refine zF_aload_n 2238 dL_law_2237 rfl rfl ?_
    refine zF_callSH 2241 (d2 := d + 39) (as := [zR (B0 0), zI (lx xs i 1), zR 245]) (rest := []) dL_law_2238 rfl kLH_query sL_query (by omega) rfl rfl (Nat.le_of_ble_eq_true rfl) ⟨zwO, zwR hs.bl, zwR hs.ml, zwR hs.ol, trivial, trivial⟩ trivial (zEH.mono (zl_query (d2 := d + 12) (by omega) hs.bk hs.bl hs.ol ((zt_X11_query_bad hGd hs.cO hc.2.1.1 hT.1.1 hT.1.2 (zrg_x _) (fun z => hq z)).mono fun _ _ h => cop_bad (v := 0) h) (lQ_cop hs) nN_cop2) fun ro σ1 hh => ?_)
    obtain ⟨er, ev, ⟨s1, b1⟩, c1, m1⟩ := lq_cop hn J hh
    subst er
    refine ⟨_, rfl, ?_⟩
    show zF G _ _ _ _ [zI _] σ1 _
    refine zF_istore 2243 (ls' := (5, zI _) :: lLs i) dL_law_2241 rfl (by decide) rfl ?_
    have hN1 := m1.1.1.1
    refine zF_aload_n 2244 dL_law_2243 rfl rfl ?_
    refine zF_aload_n 2245 dL_law_2244 rfl rfl ?_
    refine zF_iload 2247 dL_law_2245 rfl rfl ?_
    refine zF_iconst 2248 dL_law_2247 rfl ?_
    refine zF_iadd 2249 dL_law_2248 rfl ?_
    refine zF_sload 2250 dL_law_2249 rfl hX (by omega) (by omega) ?_
    refine zF_callV 2253 (d2 := d + 30) (as := [zI (lx xs i 1)]) dL_law_2250 rfl kLX12_query iX12_query (ci := 12) rfl eX12_query (by omega) s1.zMo.1 s1.zMo.2.1 rfl rfl (Nat.le_of_ble_eq_true rfl) (zE.mono (zt_X12_query_bad s1.zMo m1.2.1.1 hT.1.1 hT.1.2 (zrg_x _) hq) fun r σ2 hh2 => ?_)
    obtain ⟨x, er2, en, e5, ex, eo, ⟨s2, b2⟩, c2, m2⟩ := lq_mop (v := 0) s1 b1 hv c1 m1 (mop_bad hh2)
    subst er2
    refine ⟨en, ?_⟩
    show zF G _ _ _ _ [zI x] σ2 _
    refine zF_istore 2255 (ls' := (6, zI _) :: (5, zI _) :: lLs i) dL_law_2253 rfl (by decide) rfl ?_
    refine lw_tail 2255 dL_law_2255 dL_law_2256 dL_law_2259 dL_law_2261 dL_law_2266 dL_law_2268 dL_law_2271 dL_law_2272 dL_law_2273 dL_law_2274 dL_law_2276 dL_law_2277 dL_law_2278 dL_law_2283 (by decide) lk3_1 rfl e5 (v := 0) (fun q => absurd q (by decide)) (fun q => absurd q (by decide)) s2 ?_
    exact K σ2 ⟨S, Sn, sf, cc, ep, t, l, vv, cap, ⟨s2, b2, hv⟩, ⟨hD.up (by push_cast; omega), hT, hL⟩, c2, m2⟩
end ZLW

/-! what holds between the calls of the law -/
section ZLI
variable {G : zG} {M : zMeth} {d pc : Nat} {ls : List (Nat × zV)} {st : List zV} {σ σ1 : zMem} {Q : zRes → zMem → Prop} {P : Nat → Int → Prop} {S S1 : zS} {Sn : Int → Int} {sf cc ep : Int} {t : Int → Int} {l : List Int} {vv cap n : Nat}
/-- the script -/
theorem zat_X {p : Program} {R : Room} {s : State} {m : MethodId} {args : Array Value} {meth : Method} {c : Code} {b L : Nat} {xs : Nat → Int32} (hC : zCx G M d p R s m args meth c) (hX : va_X b L xs (zSt0 G) (zSt0 G).heap) (hb : b < (zSt0 G).heap.size) : va_X b L xs s s.heap := va_X.moved hC.2.2.2.2.2.2.2.2.2.2.2.2.1 (va_X.kept hX (hC.2.2.2.2.2.2.2.2.2.2.2.1.2 b hb))
def zSx (G : zG) (L : Nat) (xs : Nat → Int32) : Prop := va_X (zAd G 500) L xs (zSt0 G) (zSt0 G).heap ∧ zAd G 500 < (zSt0 G).heap.size ∧ L ≤ 3072
theorem zF_sload (pc' : Nat) {L : Nat} {xs : Nat → Int32} {z : Int} (hd : decode M.2.1 pc = .ok (.iaload, 1)) (hp : pc + 1 = pc') (hX : zSx G L xs) (h0 : 0 ≤ z) (h1 : z < L) (kk : zF G M d pc' ls (zI (xs z.toNat).toInt :: st) σ Q) : zF G M d pc ls (zI z :: zR (zbg + 500) :: st) σ Q := by
  subst hp
  refine zF_step rfl rfl rfl ?_ kk
  intro ρ p e R s m args below meth c0 hC H locs cells slots lsA Qm hS hR1 hR2 kk
  have q := kk H locs lsA hS
  have hL := hX.2.2
  simp only [List.map_cons, ztr, Option.map, va_rf, hS.1.2.2.2] at q ⊢
  have ho := hC.2.2.2.2.2.2.2.2.2.2.2.1
  refine va_sld hC.1 hC.2.1 (zat_X hC hX.1 hX.2.1) (Nat.lt_of_lt_of_le hX.2.1 ho.1) (fun z => absurd hX.2.1 (Nat.not_lt.mpr z)) hS.2.1 (zin h0 h1 (by omega)) hd ?_
  rw [zcl0 z h0 (by omega)]
  rw [Int32.ofInt_toInt] at q
  exact q
theorem zF_slen (pc' : Nat) {L : Nat} {xs : Nat → Int32} (hd : decode M.2.1 pc = .ok (.arraylength, 1)) (hp : pc + 1 = pc') (hX : zSx G L xs) (kk : zF G M d pc' ls (zI (L : Int) :: st) σ Q) : zF G M d pc ls (zR (zbg + 500) :: st) σ Q := by
  subst hp
  refine zF_step rfl rfl rfl ?_ kk
  intro ρ p e R s m args below meth c0 hC H locs cells slots lsA Qm hS hR1 hR2 kk
  have q := kk H locs lsA hS
  simp only [List.map_cons, ztr, Option.map, va_rf, hS.1.2.2.2] at q ⊢
  have ho := hC.2.2.2.2.2.2.2.2.2.2.2.1
  refine va_slen hC.1 hC.2.1 (zat_X hC hX.1 hX.2.1) (Nat.lt_of_lt_of_le hX.2.1 ho.1) (fun z => absurd hX.2.1 (Nat.not_lt.mpr z)) hS.2.1 hd ?_
  rw [Int32.ofInt_eq_ofNat] at q
  exact q
theorem zrg_x (x : Int32) : zrg x.toInt := ⟨Int32.minValue_le_toInt _, Int32.toInt_lt _⟩
/-- the shape -/
def zkL : zMem := znw zkM 4 1 1
theorem zkL_n : zn zkL = 246 := by decide +kernel
def lSh (σ : zMem) : Prop := 246 ≤ zn σ ∧ (∀ h, h < 246 → zkd σ h = zkd zkL h) ∧ ∀ h j, h < 246 → h ≠ 2 → zra σ h j = zra zkL h j
theorem lSh.kd {h : Nat} {v : Nat × Nat} (s : lSh σ) (e : h < 246 ∧ zkd zkL h = v) : zkd σ h = v := (s.2.1 h e.1).trans e.2
theorem lSh.lt {h : Nat} (s : lSh σ) (e : h < 246) : h < zn σ := Nat.lt_of_lt_of_le e s.1
theorem lSh.ra {h : Nat} {j : Int} {v : Option Nat} (s : lSh σ) (e : (h < 246 ∧ h ≠ 2) ∧ zra zkL h j = v) : zra σ h j = v := (s.2.2 h j e.1.1 e.1.2).trans e.2
theorem lSh.sta {b : Nat} (s : lSh σ) (e1 : B0 b < 246 ∧ zkd zkL (B0 b) = (0, 8)) (e2 : B0 b ≠ 2 ∧ ∀ q ∈ stF, zra zkL (B0 b) ((q.1 : Nat) : Int) = some (B0 (b + q.1)) ∧ B0 (b + q.1) < 246 ∧ zkd zkL (B0 (b + q.1)) = (1, q.2)) : cSt σ B0 b := ⟨s.kd e1, s.lt e1.1, fun k n q => by
  have h := e2.2 (k, n) q
  exact ⟨s.ra ⟨⟨e1.1, e2.1⟩, h.1⟩, s.lt h.2.1, s.kd ⟨h.2.1, h.2.2⟩⟩⟩
theorem lSh.ch {b : Nat} (s : lSh σ) (e1 : B0 b < 246 ∧ zkd zkL (B0 b) = (0, 1)) (e2 : B0 b ≠ 2 ∧ ∀ q ∈ chF, zra zkL (B0 b) ((q.1 : Nat) : Int) = some (B0 (b + q.1)) ∧ B0 (b + q.1) < 246 ∧ zkd zkL (B0 (b + q.1)) = (1, q.2)) : cCh σ B0 b := ⟨s.kd e1, s.lt e1.1, fun k n q => by
  have h := e2.2 (k, n) q
  exact ⟨s.ra ⟨⟨e1.1, e2.1⟩, h.1⟩, s.lt h.2.1, s.kd ⟨h.2.1, h.2.2⟩⟩⟩
theorem lSh.ar {b : Nat} {f : List (Nat × Nat)} (s : lSh σ) (e1 : B0 b < 246 ∧ B0 b ≠ 2) (e2 : ∀ q ∈ f, zra zkL (B0 b) ((q.1 : Nat) : Int) = some (B0 (b + q.1)) ∧ B0 (b + q.1) < 246 ∧ zkd zkL (B0 (b + q.1)) = (1, q.2)) : ∀ k n, (k, n) ∈ f → zra σ (B0 b) ((k : Nat) : Int) = some (B0 (b + k)) ∧ B0 (b + k) < zn σ ∧ zkd σ (B0 (b + k)) = (1, n) := fun k n q => by
  have h := e2 (k, n) q
  exact ⟨s.ra ⟨e1, h.1⟩, s.lt h.2.1, s.kd ⟨h.2.1, h.2.2⟩⟩
theorem lSh.cM (s : lSh σ) : cM σ B0 := ⟨s.ch (by decide +kernel) (by decide +kernel), s.sta (by decide +kernel) (by decide +kernel), ⟨s.kd (by decide +kernel), s.lt (by decide +kernel), s.ra (by decide +kernel), s.ra (by decide +kernel), s.ra (by decide +kernel), s.ra (by decide +kernel), s.lt (by decide +kernel), s.kd (by decide +kernel), s.lt (by decide +kernel), s.kd (by decide +kernel)⟩, B0_inj⟩
theorem lSh.cO (s : lSh σ) : cO σ B0 := ⟨s.cM, s.kd (by decide +kernel), s.lt (by decide +kernel), s.ra (by decide +kernel), s.ra (by decide +kernel), s.ra (by decide +kernel), s.ra (by decide +kernel), s.ra (by decide +kernel), s.ra (by decide +kernel), s.ra (by decide +kernel), s.ra (by decide +kernel), s.ra (by decide +kernel), s.ra (by decide +kernel), s.ra (by decide +kernel)⟩
theorem lSh.cPr (s : lSh σ) : cPr σ B0 := ⟨s.kd (by decide +kernel), s.lt (by decide +kernel), s.ra (by decide +kernel), s.ra (by decide +kernel), s.ra (by decide +kernel), s.ar (by decide +kernel) (by decide +kernel)⟩
theorem lSh.cCl (s : lSh σ) : cCl σ B0 := ⟨s.kd (by decide +kernel), s.lt (by decide +kernel), s.ra (by decide +kernel), s.ra (by decide +kernel), s.ra (by decide +kernel), s.ra (by decide +kernel), s.lt (by decide +kernel), s.kd (by decide +kernel)⟩
theorem lSh.cCt (s : lSh σ) : cCt σ B0 := ⟨s.kd (by decide +kernel), s.lt (by decide +kernel), s.ra (by decide +kernel), s.ra (by decide +kernel), s.ra (by decide +kernel), s.ch (by decide +kernel) (by decide +kernel), s.sta (by decide +kernel) (by decide +kernel), B0_inj⟩
theorem lSh.cQt (s : lSh σ) : cQt σ B0 := ⟨s.kd (by decide +kernel), s.lt (by decide +kernel), s.ra (by decide +kernel), s.ra (by decide +kernel), s.ra (by decide +kernel), s.ra (by decide +kernel)⟩
theorem lSh.hr (s : lSh σ) : ∀ i : Int, 0 ≤ i → i < 10 → zra σ (B0 601) i = some (B0 (slb i)) ∧ cSt σ B0 (slb i) := fun i a b => by
  have q : i = 0 ∨ i = 1 ∨ i = 2 ∨ i = 3 ∨ i = 4 ∨ i = 5 ∨ i = 6 ∨ i = 7 ∨ i = 8 ∨ i = 9 := by omega
  rcases q with q | q | q | q | q | q | q | q | q | q <;> subst q
  · exact ⟨s.ra (by decide +kernel), s.sta (by decide +kernel) (by decide +kernel)⟩
  · exact ⟨s.ra (by decide +kernel), s.sta (by decide +kernel) (by decide +kernel)⟩
  · exact ⟨s.ra (by decide +kernel), s.sta (by decide +kernel) (by decide +kernel)⟩
  · exact ⟨s.ra (by decide +kernel), s.sta (by decide +kernel) (by decide +kernel)⟩
  · exact ⟨s.ra (by decide +kernel), s.sta (by decide +kernel) (by decide +kernel)⟩
  · exact ⟨s.ra (by decide +kernel), s.sta (by decide +kernel) (by decide +kernel)⟩
  · exact ⟨s.ra (by decide +kernel), s.sta (by decide +kernel) (by decide +kernel)⟩
  · exact ⟨s.ra (by decide +kernel), s.sta (by decide +kernel) (by decide +kernel)⟩
  · exact ⟨s.ra (by decide +kernel), s.sta (by decide +kernel) (by decide +kernel)⟩
  · exact ⟨s.ra (by decide +kernel), s.sta (by decide +kernel) (by decide +kernel)⟩
theorem lSh.cHs (s : lSh σ) : cHs σ B0 := ⟨s.kd (by decide +kernel), s.lt (by decide +kernel), s.ra (by decide +kernel), s.ra (by decide +kernel), s.kd (by decide +kernel), s.lt (by decide +kernel), s.hr, s.sta (by decide +kernel) (by decide +kernel)⟩
theorem lSh.tk (s : lSh σ) {L : Nat} (hL : L ≤ 700) (h : ∀ j : Int, 0 ≤ j → j < (L : Int) → zia σ (B0 10) j = t j ∧ -128 ≤ t j ∧ t j < 128) : cTk σ B0 t L := ⟨s.kd (by decide +kernel), s.lt (by decide +kernel), s.ra (by decide +kernel), s.kd (by decide +kernel), s.lt (by decide +kernel), (by decide +kernel), hL, h⟩
theorem lSh.mo (s : lSh σ) (e : ∀ q ∈ zmf, zra zkL 228 ((q.1 : Nat) : Int) = some (A0 q.1) ∧ A0 q.1 < 246 ∧ zkd zkL (A0 q.1) = (q.2.1, q.2.2)) : ∀ k t n, (k, t, n) ∈ zmf → zra σ 228 ((k : Nat) : Int) = some (A0 k) ∧ A0 k < zn σ ∧ zkd σ (A0 k) = (t, n) := fun k t n q => by
  have h := e (k, t, n) q
  exact ⟨s.ra ⟨by decide, h.1⟩, s.lt h.2.1, s.kd ⟨h.2.1, h.2.2⟩⟩
theorem lSh.zMo (s : lSh σ) : zMo σ 228 A0 := ⟨s.kd (by decide +kernel), s.lt (by decide +kernel), s.mo (by decide +kernel), fun j _ k _ e => A0_inj j k e⟩
theorem lSh.mNm (s : lSh σ) : mNm σ A0 := by
  have q : ∀ i ∈ List.range 9, (A0 28 < 246 ∧ A0 28 ≠ 2) ∧ zra zkL (A0 28) (i : Int) = some (zbg + (30 + i)) := by decide +kernel
  exact fun i hi => s.ra (q i (List.mem_range.mpr hi))
theorem lSh.ok (s : lSh σ) : zkd σ 245 = (4, 1) := s.kd (by decide +kernel)
theorem lSh.ol (s : lSh σ) : 245 < zn σ := s.lt (by decide)
theorem lSh.bl (s : lSh σ) : B0 0 < zn σ := s.lt (by decide +kernel)
theorem lSh.bk (s : lSh σ) : zkd σ (B0 0) = (0, 11) := s.kd (by decide +kernel)
theorem lSh.ml (s : lSh σ) : 228 < zn σ := s.lt (by decide)
theorem lSh.tl (s : lSh σ) : zkd σ (B0 10) = (2, 700) ∧ B0 10 < zn σ := ⟨s.kd (by decide +kernel), s.lt (by decide +kernel)⟩
theorem lSh.a1 (s : lSh σ) : zkd σ (A0 1) = (1, 312) := s.kd (by decide +kernel)
theorem lSh.fr (s : lSh σ) (f : zFr P σ σ1) : lSh σ1 := ⟨by rw [f.1]; exact s.1, by rw [f.2.1]; exact s.2.1, by rw [f.2.2.1]; exact s.2.2⟩
theorem B0_11 : B0 11 = 2 := by decide +kernel
theorem lSh.gb {vv1 cap1 : Nat} (s : lSh σ) (g : sbS σ σ1 (B0 11) vv vv1 cap cap1) : lSh σ1 := by
  have hn := g.n
  have hs := s.1
  obtain ⟨g1, g2, -, g4⟩ := g
  have c : ∀ x, x < 246 → x = vv1 → cap1 = cap := fun x hx e => by
    rcases g4 with g4 | g4
    · exact g4.2.2.2.1
    · have := g4.2.2.2.2.2
      omega
  refine ⟨by omega, fun h hh => (g1 h (c h hh)).trans (s.2.1 h hh), fun h j hh h2 => (g2 h j (c h hh) (by rw [B0_11]; exact h2)).trans (s.2.2 h j hh h2)⟩
theorem B0_228 (k : Nat) : B0 k ≠ 228 := by have := B0_lt k; omega
theorem B0_245 (k : Nat) : B0 k ≠ 245 := by have := B0_lt k; omega
theorem A0_228 (k : Nat) : A0 k ≠ 228 := by have := A0_lt k; omega
theorem A0_245 (k : Nat) : A0 k ≠ 245 := by have := A0_lt k; omega
def lVv (vv : Nat) : Prop := vv = 3 ∨ (246 ≤ vv ∧ vv < zbg)
theorem lVv.b (h : lVv vv) (k : Nat) : B0 k ≠ vv := fun e => by
  rcases h with h | h
  · exact B0_vv k (e.trans h)
  · have := B0_lt k; have : zbg = 1000000 := rfl; omega
theorem lVv.a (h : lVv vv) (k : Nat) : A0 k ≠ vv := fun e => by
  have := A0_lt k; have : zbg = 1000000 := rfl
  rcases h with h | h <;> omega
theorem lVv.m (h : lVv vv) : vv ≠ 228 ∧ vv ≠ 245 := by rcases h with h | h <;> omega
/-- the numbers -/
def lB (n : Nat) (σ : zMem) : Prop := n ≤ 512 ∧ zn σ ≤ 246 + n ∧ zcs σ ≤ 246 + n ∧ zss σ ≤ 20000 + 40 * n
def lD (T : Int) (S : zS) (Sn : Int → Int) (sf : Int) : Prop := gS T S ∧ fe S.1 ∧ mCp S.1 ∧ (∀ k, 0 ≤ k → k < S.2.2 → fe (S.2.1 k)) ∧ (sf = 0 ∨ sf = 1) ∧ (sf ≠ 0 → gN T Sn ∧ cE S.1 Sn ∧ fe Sn)
def lTt (cc ep : Int) (t : Int → Int) : Prop := (0 ≤ cc ∧ cc ≤ 700) ∧ ep = ep ∧ ∀ j, 0 ≤ j → j < cc → -128 ≤ t j ∧ t j < 128
def lXl (l : List Int) : Prop := l.length ≤ 40 ∧ ∀ x ∈ l, 0 ≤ x ∧ x < 128
/-- the class's cells -/
def lC (S : zS) (Sn : Int → Int) (sf : Int) (σ : zMem) : Prop := cST S σ B0 ∧ zia σ (B0 408) 0 = 0 ∧ zia σ (B0 600) ((4 : Nat) : Int) = sf ∧ (sf ≠ 0 → cRs Sn σ B0 2000)
def lTc (cc ep : Int) (t : Int → Int) (σ : zMem) : Prop := zia σ (B0 0) ((1 : Nat) : Int) = cc ∧ zia σ (B0 0) ((2 : Nat) : Int) = ep ∧ ∀ j, 0 ≤ j → j < cc → zia σ (B0 10) j = t j
/-- the reference's cells -/
def lM (S : zS) (Sn : Int → Int) (sf : Int) (σ : zMem) : Prop := mST S σ 228 A0 ∧ zia σ 228 ((6 : Nat) : Int) = sf ∧ (sf ≠ 0 → snap σ A0 = Sn) ∧ ∀ j, zrg (zia σ (A0 1) j)
def lTm (cc ep : Int) (t : Int → Int) (σ : zMem) : Prop := zia σ 228 ((19 : Nat) : Int) = cc ∧ zia σ 228 ((26 : Nat) : Int) = ep ∧ ∀ j, 0 ≤ j → j < cc → zia σ (A0 18) j = t j % 256
def lCl (S : zS) (Sn : Int → Int) (sf cc ep : Int) (t : Int → Int) (l : List Int) (vv cap : Nat) (σ : zMem) : Prop := lC S Sn sf σ ∧ lTc cc ep t σ ∧ sbI σ (B0 11) vv cap l
def lMd (S : zS) (Sn : Int → Int) (sf cc ep : Int) (t : Int → Int) (l : List Int) (σ : zMem) : Prop := lM S Sn sf σ ∧ lTm cc ep t σ ∧ mWr σ 228 A0 l
def lJ (n : Nat) (S : zS) (Sn : Int → Int) (sf cc ep : Int) (t : Int → Int) (l : List Int) (vv cap : Nat) (σ : zMem) : Prop :=
  (lSh σ ∧ lB n σ ∧ lVv vv) ∧ (lD n S Sn sf ∧ lTt cc ep t ∧ lXl l) ∧ lCl S Sn sf cc ep t l vv cap σ ∧ lMd S Sn sf cc ep t l σ
def lI (n : Nat) (σ : zMem) : Prop := ∃ S Sn sf cc ep t l vv cap, lJ n S Sn sf cc ep t l vv cap σ
theorem lB.fr (h : lB n σ) (f : zFr P σ σ1) : lB n σ1 := by
  obtain ⟨f1, _, _, f2, f3, _⟩ := f
  unfold lB at h ⊢
  rw [f1, f2, f3]
  exact h
theorem lB.up (h : lB n σ) (hn : n < 512) : lB (n + 1) σ := by unfold lB at h ⊢; omega
theorem lB.us (h : lB n σ) (hn : n < 512) : lB (n + 1) (zus σ 1 6) := by
  have e1 : zcs (zus σ 1 6) = zcs σ + 1 := rfl
  have e2 : zss (zus σ 1 6) = zss σ + 6 := rfl
  have e3 : zn (zus σ 1 6) = zn σ := rfl
  unfold lB at h ⊢
  omega
/-- the same cells -/
theorem cRs_eq {N : Int → Int} {b : Nat} (e : ∀ i, i < 16 → zia σ1 (B0 (b + i)) = zia σ (B0 (b + i))) (h : cRs N σ B0 b) : cRs N σ1 B0 b := by
  have e0 : zia σ1 (B0 b) = zia σ (B0 b) := e 0 (by decide)
  unfold cRs at h ⊢
  rw [e0, e 3 (by decide), e 4 (by decide), e 5 (by decide), e 6 (by decide), e 7 (by decide), e 8 (by decide), e 9 (by decide), e 10 (by decide), e 11 (by decide), e 12 (by decide), e 13 (by decide), e 14 (by decide), e 15 (by decide)]
  exact h
theorem cHr_fr {H : Int → Int → Int} {u nx : Int} (f : zFr P σ σ1) (hp : ∀ k j, 1000 ≤ k → k < 2000 → ¬ P (B0 k) j) (h1 : ¬ P (B0 600) ((1 : Nat) : Int)) (h2 : ¬ P (B0 600) ((2 : Nat) : Int)) (h : cHr H u nx σ B0) : cHr H u nx σ1 B0 := by
  obtain ⟨a, b, c, e⟩ := h
  refine ⟨(f.2.2.2.2.2 _ _ h1).trans a, (f.2.2.2.2.2 _ _ h2).trans b, c, fun k k0 k1 => cRs_eq (fun i hi => f.at fun j => hp _ j ?_ ?_) (e k k0 k1)⟩
  · unfold slb; omega
  · unfold slb; omega
theorem cST_fr (f : zFr P σ σ1) (hp : ∀ k j, 100 ≤ k → k ≤ 302 → ¬ P (B0 k) j) (hq : ∀ k j, 1000 ≤ k → k < 2000 → ¬ P (B0 k) j) (h1 : ¬ P (B0 600) ((1 : Nat) : Int)) (h2 : ¬ P (B0 600) ((2 : Nat) : Int)) (h : cST S σ B0) : cST S σ1 B0 := by
  obtain ⟨a, nx, b⟩ := h
  exact ⟨cR_congr2 (fun i h0 hi => f.at fun j => hp i j h0 hi) a, nx, cHr_fr f hq h1 h2 b⟩
theorem sbI_fr {h : Nat} (f : zFr P σ σ1) (h1 : ∀ j, ¬ P h j) (h2 : ∀ j, ¬ P vv j) (k : sbI σ h vv cap l) : sbI σ1 h vv cap l := by
  have e1 : zia σ1 h = zia σ h := f.at h1
  have e2 : zia σ1 vv = zia σ vv := f.at h2
  unfold sbI at k ⊢
  rw [f.1, f.2.1, f.2.2.1, e1, e2]
  exact k
theorem lTc_fr (f : zFr P σ σ1) (h1 : ¬ P (B0 0) ((1 : Nat) : Int)) (h2 : ¬ P (B0 0) ((2 : Nat) : Int)) (h3 : ∀ j, ¬ P (B0 10) j) (h : lTc cc ep t σ) : lTc cc ep t σ1 := ⟨(f.2.2.2.2.2 _ _ h1).trans h.1, (f.2.2.2.2.2 _ _ h2).trans h.2.1, fun j a b => (f.2.2.2.2.2 _ _ (h3 j)).trans (h.2.2 j a b)⟩
theorem lC_fr (f : zFr P σ σ1) (hp : ∀ k j, 100 ≤ k → k ≤ 302 → ¬ P (B0 k) j) (hq : ∀ k j, 1000 ≤ k → k < 2016 → ¬ P (B0 k) j) (h1 : ¬ P (B0 600) ((1 : Nat) : Int)) (h2 : ¬ P (B0 600) ((2 : Nat) : Int)) (h4 : ¬ P (B0 600) ((4 : Nat) : Int)) (h8 : ¬ P (B0 408) 0) (h : lC S Sn sf σ) : lC S Sn sf σ1 :=
  ⟨cST_fr f hp (fun k j a b => hq k j a (by omega)) h1 h2 h.1, (f.2.2.2.2.2 _ _ h8).trans h.2.1, (f.2.2.2.2.2 _ _ h4).trans h.2.2.1, fun z => cRs_eq (fun i hi => f.at fun j => hq _ j (by omega) (by omega)) (h.2.2.2 z)⟩
/-- a new state of the class -/
theorem lC_st (f : zFr P σ σ1) (hq : ∀ k j, 2000 ≤ k → k < 2016 → ¬ P (B0 k) j) (h4 : ¬ P (B0 600) ((4 : Nat) : Int)) (h8 : ¬ P (B0 408) 0) (hc : cST S1 σ1 B0) (h : lC S Sn sf σ) : lC S1 Sn sf σ1 :=
  ⟨hc, (f.2.2.2.2.2 _ _ h8).trans h.2.1, (f.2.2.2.2.2 _ _ h4).trans h.2.2.1, fun z => cRs_eq (fun i hi => f.at fun j => hq _ j (by omega) (by omega)) (h.2.2.2 z)⟩
/-- cells that no question of the class reads again -/
def lSk (k : Nat) (j : Int) : Prop := k = 20 ∨ (302 < k ∧ k < 600 ∧ ¬ (k = 408 ∧ j = 0)) ∨ 2100 ≤ k
theorem lCl.fr (s : lSh σ) (f : zFr P σ σ1) (hp : ∀ k j, P (B0 k) j → lSk k j) (hv : ∀ j, ¬ P vv j) (h : lCl S Sn sf cc ep t l vv cap σ) : lCl S Sn sf cc ep t l vv cap σ1 := by
  have z : ∀ k j, ¬ lSk k j → ¬ P (B0 k) j := fun k j a b => a (hp k j b)
  unfold lSk at z
  obtain ⟨h1, h2, h3⟩ := h
  refine ⟨?_, lTc_fr f (z _ _ (by omega)) (z _ _ (by omega)) (fun j => z _ _ (by omega)) h2, sbI_fr f (fun j => z _ _ (by omega)) hv h3⟩
  refine ⟨?_, (f.2.2.2.2.2 _ _ (z _ _ (by omega))).trans h1.2.1, (f.2.2.2.2.2 _ _ (z _ _ (by omega))).trans h1.2.2.1, fun q => cRs_eq (fun i hi => f.at fun j => z _ _ (by omega)) (h1.2.2.2 q)⟩
  obtain ⟨a, nx, b⟩ := h1.1
  exact ⟨cR_congr2 (fun i h0 hi => f.at fun j => z i j (by omega)) a, nx, cHr_fr f (fun k j a b => z _ _ (by omega)) (z _ _ (by omega)) (z _ _ (by omega)) b⟩
end ZLI

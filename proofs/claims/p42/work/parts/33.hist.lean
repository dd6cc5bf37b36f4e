/-! the class: history and snapshot -/
section ZC7
variable {G : zG} {d : Nat} {σ : zMem} {B : Nat → Nat} {N : Int → Int}
def slb (nx : Int) : Nat := 1000 + 100 * nx.toNat
/-- the history's objects -/
def cHs (σ : zMem) (B : Nat → Nat) : Prop := zkd σ (B 600) = (0, 4) ∧ B 600 < zn σ ∧ zra σ (B 600) ((0 : Nat) : Int) = some (B 601) ∧ zra σ (B 600) ((3 : Nat) : Int) = some (B 2000) ∧ zkd σ (B 601) = (5, 10) ∧ B 601 < zn σ ∧ (∀ i : Int, 0 ≤ i → i < 10 → zra σ (B 601) i = some (B (slb i)) ∧ cSt σ B (slb i)) ∧ cSt σ B 2000
theorem cHs_fr {P : Nat → Int → Prop} {σ2 : zMem} (h : cHs σ B) (f : zFr P σ σ2) : cHs σ2 B := by
  obtain ⟨f1, f2, f3, -⟩ := f
  unfold cHs cSt at h ⊢
  rw [f1, f2, f3]
  exact h
/-- the rows that can be taken back: the k-th of u is H k -/
def cHr (H : Int → Int → Int) (u nx : Int) (σ : zMem) (B : Nat → Nat) : Prop := zia σ (B 600) ((1 : Nat) : Int) = nx ∧ zia σ (B 600) ((2 : Nat) : Int) = u ∧ (0 ≤ nx ∧ nx < 10 ∧ 0 ≤ u ∧ u ≤ 10) ∧ ∀ k, 0 ≤ k → k < u → cRs (H k) σ B (slb ((nx + 10 - u + k) % 10))
def hsR (H : Int → Int → Int) (u : Int) (N : Int → Int) : Int → Int → Int := fun k => if k = min (u + 1) 10 - 1 then N else H (k + if u = 10 then 1 else 0)
theorem cRs_cp {σ1 : zMem} {b b' : Nat} (hV : mV N) (c : zCpA [(15, 100), (14, 4), (13, 24), (12, 6), (11, 6), (10, 6), (9, 10), (8, 10), (7, 10), (6, 10), (5, 30), (4, 10), (3, 4)] [2, 1, 0] σ B b b' σ1) (h : cRs N σ B b') : cRs N σ1 B b := by
  have hn := hV.n
  obtain ⟨-, c1, c2⟩ := c
  obtain ⟨⟨h1, h2, h3⟩, h4, h5, h6, h7, h8⟩ := h
  refine ⟨⟨(c1 0 (by decide)).trans h1, (c1 1 (by decide)).trans h2, (c1 2 (by decide)).trans h3⟩, fun x x0 x1 => ⟨?_, fun f f0 f1 => ?_⟩, fun s s0 s1 => ?_, fun f f0 f1 => ?_, fun k k0 k1 => ?_, fun k w k0 k1 w0 w1 => ?_⟩
  · exact (c2 3 4 (by decide) x x0 (by omega)).trans (h4 x x0 x1).1
  · exact (c2 13 24 (by decide) (x * 6 + f) (by omega) (by omega)).trans ((h4 x x0 x1).2 f f0 f1)
  · obtain ⟨a, b, c, e, g⟩ := h5 s s0 s1
    exact ⟨(c2 4 10 (by decide) s s0 (by omega)).trans a, (c2 6 10 (by decide) s s0 (by omega)).trans b, (c2 7 10 (by decide) s s0 (by omega)).trans c, (c2 8 10 (by decide) s s0 (by omega)).trans e, (c2 9 10 (by decide) s s0 (by omega)).trans g⟩
  · obtain ⟨a, b, c, e⟩ := h6 f f0 f1
    exact ⟨(c2 10 6 (by decide) f f0 (by omega)).trans a, (c2 11 6 (by decide) f f0 (by omega)).trans b, (c2 12 6 (by decide) f f0 (by omega)).trans c, fun p p0 p1 => (c2 5 30 (by decide) (f * 5 + p + 1) (by omega) (by omega)).trans (e p p0 p1)⟩
  · exact (c2 14 4 (by decide) k k0 (by omega)).trans (h7 k k0 k1)
  · exact (c2 15 100 (by decide) _ (by omega) (by omega)).trans (h8 k w k0 k1 w0 w1)
theorem zBk_rg {b lo hi : Nat} {σ2 : zMem} (h : lo ≤ b ∧ b + 16 ≤ hi) (f : zFr (zBk B b) σ σ2) : zFr (zRg lo hi B) σ σ2 := f.wk fun _ _ ⟨k, hk, e⟩ => ⟨b + k, by omega, by omega, e⟩
/-- what an operation of the class may write -/
def cHm (B : Nat → Nat) (h : Nat) (j : Int) : Prop := (h = B 600 ∧ (j = 1 ∨ j = 2)) ∨ zRg 1000 2000 B h j
def cMu (B : Nat → Nat) (h : Nat) (j : Int) : Prop := (zRg 200 600 B h j ∧ ¬ (h = B 408 ∧ j = 0)) ∨ cHm B h j
theorem cHm_rg {σ2 : zMem} (f : zFr (cHm B) σ σ2) : zFr (zRg 600 2000 B) σ σ2 := f.wk fun _ _ q => q.elim (fun q => q.1 ▸ ⟨600, by omega, by omega, rfl⟩) (fun ⟨i, a, b, e⟩ => ⟨i, by omega, by omega, e⟩)
theorem cHm_mu {σ2 : zMem} (f : zFr (cHm B) σ σ2) : zFr (cMu B) σ σ2 := f.wk fun _ _ q => Or.inr q
theorem zRg_mu {lo hi : Nat} {σ2 : zMem} (hj : ∀ i j, B i = B j → i = j) (f : zFr (zRg lo hi B) σ σ2) (h : 200 ≤ lo ∧ hi ≤ 400) : zFr (cMu B) σ σ2 := f.wk fun _ _ ⟨i, a, b, e⟩ => Or.inl ⟨⟨i, by omega, by omega, e⟩, fun z => by have := hj _ _ (e.symm.trans z.1); omega⟩
theorem cSc_mu {σ2 : zMem} (f : zFr (cSc B) σ σ2) : zFr (cMu B) σ σ2 := f.wk fun _ _ ⟨⟨i, e, a⟩, z⟩ => Or.inl ⟨⟨i, by omega, by omega, e⟩, z⟩
theorem slb_r {i : Int} (h0 : 0 ≤ i) (h1 : i < 10) : 1000 ≤ slb i ∧ slb i + 16 ≤ 2000 := by unfold slb; omega
theorem slb_ne {i j : Int} (h0 : 0 ≤ i) (g0 : 0 ≤ j) (h : i ≠ j) : slb i + 16 ≤ slb j ∨ slb j + 16 ≤ slb i := by unfold slb; omega
theorem cRs_bk {b b' : Nat} {σ2 : zMem} (hi : ∀ i j, B i = B j → i = j) (f : zFr (zBk B b) σ σ2) (h : b + 16 ≤ b' ∨ b' + 16 ≤ b) (k : cRs N σ B b') : cRs N σ2 B b' := cRs_congr (fun k hk => f.at fun _ ⟨k2, h2, e⟩ => by have := hi _ _ e; omega) k
theorem cRs_si {h : Nat} {b : Nat} {j v : Int} (hi : ∀ k, k ≤ 15 → B (b + k) ≠ h) (k : cRs N σ B b) : cRs N (zsi σ h j v) B b := cRs_congr (fun k hk => zsi_at (hi k hk) rfl) k
theorem zH_rec {H : Int → Int → Int} {u nx : Int} {σ1 : zMem} (hi : ∀ i j, B i = B j → i = j) (hV : mV N) (hR : cRs N σ B 200) (hr : cHr H u nx σ B) (c : zCpA [(15, 100), (14, 4), (13, 24), (12, 6), (11, 6), (10, 6), (9, 10), (8, 10), (7, 10), (6, 10), (5, 30), (4, 10), (3, 4)] [2, 1, 0] σ B (slb nx) 200 σ1) {v w : Int} (ev : v = (nx + 1) % 10) (ew : w = min (u + 1) 10) :
    cHr (hsR H u N) (min (u + 1) 10) ((nx + 1) % 10) (zsi (zsi σ1 (B 600) ((1 : Nat) : Int) v) (B 600) ((2 : Nat) : Int) w) B := by
  obtain ⟨r1, r2, ⟨x0, x1, u0, u1⟩, r3⟩ := hr
  have hb := slb_r x0 x1
  have key : ∀ (N' : Int → Int) (i : Int), 0 ≤ i → i < 10 → cRs N' σ1 B (slb i) → cRs N' (zsi (zsi σ1 (B 600) ((1 : Nat) : Int) v) (B 600) ((2 : Nat) : Int) w) B (slb i) := fun N' i i0 i1 h =>
    cRs_si (fun k hk e => by have := hi _ _ e; have := slb_r i0 i1; omega) (cRs_si (fun k hk e => by have := hi _ _ e; have := slb_r i0 i1; omega) h)
  refine ⟨?_, ?_, ⟨by omega, by omega, by omega, by omega⟩, fun k k0 k1 => ?_⟩
  · rw [zia_si, if_neg (by intro q; exact absurd q.2 (by decide)), zia_si, if_pos ⟨rfl, rfl⟩, ev]
  · rw [zia_si, if_pos ⟨rfl, rfl⟩, ew]
  · refine key _ _ (by omega) (by omega) ?_
    unfold hsR
    by_cases e : k = min (u + 1) 10 - 1
    · rw [if_pos e, show ((nx + 1) % 10 + 10 - min (u + 1) 10 + k) % 10 = nx by omega]
      exact cRs_cp hV c hR
    · rw [if_neg e]
      have q : ((nx + 1) % 10 + 10 - min (u + 1) 10 + k) % 10 = (nx + 10 - u + (k + if u = 10 then 1 else 0)) % 10 := by split <;> omega
      rw [q]
      have q2 : (nx + 10 - u + (k + if u = 10 then 1 else 0)) % 10 ≠ nx := by split <;> omega
      exact cRs_bk hi c.1 (slb_ne x0 (by omega) (fun z => q2 z.symm)) (r3 _ (by split <;> omega) (by split <;> omega))
theorem hRec_n {H : Int → Int → Int} {u : Int} {k : Int} (e : k = min (u + 1) 10 - 1) : hsR H u N k = N := if_pos e
theorem hRec_o {H : Int → Int → Int} {u : Int} {k : Int} (e : k ≠ min (u + 1) 10 - 1) : hsR H u N k = H (k + if u = 10 then 1 else 0) := if_neg e
/-- the state and what can be taken back -/
abbrev zS : Type := (Int → Int) × (Int → Int → Int) × Int
def sRec (S : zS) (N' : Int → Int) : zS := (N', hsR S.2.1 S.2.2 S.1, min (S.2.2 + 1) 10)
def cST (S : zS) (σ : zMem) (B : Nat → Nat) : Prop := cR S.1 σ B ∧ ∃ nx, cHr S.2.1 S.2.2 nx σ B
/-- what every call keeps; T: how many calls there were -/
def gN (T : Int) (N : Int → Int) : Prop := mV N ∧ mW N ∧ mX N ∧ mQ N ∧ 0 ≤ N 5 ∧ N 5 ≤ T
theorem gN.v {T : Int} (h : gN T N) : mV N := h.1
theorem gN.w {T : Int} (h : gN T N) : mW N := h.2.1
theorem gN.x {T : Int} (h : gN T N) : mX N := h.2.2.1
theorem gN.q {T : Int} (h : gN T N) : mQ N := h.2.2.2.1
theorem gN.m {T : Int} (h : gN T N) : 0 ≤ N 5 ∧ N 5 ≤ T := h.2.2.2.2
theorem gN.up {T T' : Int} (h : gN T N) (k : T ≤ T') : gN T' N := ⟨h.v, h.w, h.x, h.q, h.m.1, Int.le_trans h.m.2 k⟩
def gS (T : Int) (S : zS) : Prop := gN T S.1 ∧ (0 ≤ S.2.2 ∧ S.2.2 ≤ 10) ∧ ∀ k, 0 ≤ k → k < S.2.2 → gN T (S.2.1 k) ∧ cE S.1 (S.2.1 k)
theorem gS.n {T : Int} {S : zS} (h : gS T S) : gN T S.1 := h.1
theorem gS.up {T T' : Int} {S : zS} (h : gS T S) (k : T ≤ T') : gS T' S := ⟨h.1.up k, h.2.1, fun i a b => ⟨(h.2.2 i a b).1.up k, (h.2.2 i a b).2⟩⟩
theorem gS_rec {T : Int} {S : zS} {N' : Int → Int} (h : gS T S) (hN : gN T N') (e : cE S.1 N') : gS T (sRec S N') := by
  obtain ⟨h1, h2, h3⟩ := h
  refine ⟨hN, ⟨by show 0 ≤ min (S.2.2 + 1) 10; omega, by show min (S.2.2 + 1) 10 ≤ 10; omega⟩, fun k k0 k1 => ?_⟩
  have k1' : k < min (S.2.2 + 1) 10 := k1
  show gN T (hsR S.2.1 S.2.2 S.1 k) ∧ cE N' (hsR S.2.1 S.2.2 S.1 k)
  by_cases q : k = min (S.2.2 + 1) 10 - 1
  · rw [hRec_n q]; exact ⟨h1, e.sy⟩
  · rw [hRec_o q]
    obtain ⟨a, b⟩ := h3 (k + if S.2.2 = 10 then 1 else 0) (by split <;> omega) (by split <;> omega)
    exact ⟨a, e.sy.tr b⟩
/-- an operation's end -/
def copM (k v : Int) (S : zS) (B : Nat → Nat) (σ : zMem) : zRes → zMem → Prop := fun r σ1 => (k = 0 ∧ r = .inl (some (zI v)) ∧ zFr (cMu B) σ σ1 ∧ cST S σ1 B) ∨ (k = 1 ∧ r = .inr eNSE ∧ σ1 = zus σ 1 6) ∨ (k = 2 ∧ r = .inr eIAE ∧ σ1 = zus σ 1 6)
theorem copMR {k v x : Int} {S S' : zS} {σ1 : zMem} (f : zFr (cMu B) σ σ1) (hk : k = 0) (hv : x = v) (hS : S = S') (c : cST S' σ1 B) : copM k v S B σ (.inl (some (zI x))) σ1 := Or.inl ⟨hk, by rw [hv], f, hS ▸ c⟩
theorem copMN {k v : Int} {S : zS} (hk : k = 1) : copM k v S B σ (.inr "java/util/NoSuchElementException") (zus σ 1 6) := Or.inr (Or.inl ⟨hk, rfl, rfl⟩)
theorem copMA {k v : Int} {S : zS} (hk : k = 2) : copM k v S B σ (.inr "java/lang/IllegalArgumentException") (zus σ 1 6) := Or.inr (Or.inr ⟨hk, rfl, rfl⟩)
/-! bookings -/
theorem zmax_i {f : Int → Int} {n : Nat} : ∀ {i : Nat}, i < n → f i ≤ zmax f n := by
  induction n with
  | zero => intro i h; omega
  | succ n ih =>
    intro i h
    show f i ≤ max (zmax f n) (f n)
    by_cases e : i = n
    · subst e; omega
    · have := ih (i := i) (by omega); omega
theorem mNeed_le {N : Int → Int} {h f P : Int} (hP : 0 ≤ P) : mNeed N h f ≤ P ↔ ∀ i : Nat, i < 7 → mCnt N h f i ≤ P :=
  ⟨fun q i hi => Int.le_trans (zmax_i (f := fun day => mCnt N h f day) hi) q, fun q => zmax_le hP q⟩
def mFd (a b c day : Int) : Int := if c = 0 ∨ day < c then a else b
def bkOK (N : Int → Int) (s a b c : Int) : Prop := (0 ≤ s ∧ s < N 1) ∧ (-1 ≤ a ∧ a < N 2) ∧ ((b = -1 ∧ c = 0) ∨ (0 ≤ b ∧ b < N 2 ∧ 1 ≤ c ∧ c < 7 ∧ a ≠ b ∧ 0 ≤ a))
abbrev mEn (N : Int → Int) (s a b c : Int) : Prop := mNeed (mBook N s a b c 0) (mS N s 0) a ≤ mP N a (mS N s 0) ∧ (b = -1 ∨ mNeed (mBook N s a b c 0) (mS N s 0) b ≤ mP N b (mS N s 0))
def okD (N : Int → Int) (s a b c day : Int) : Prop := mCnt N (mS N s 0) (mFd a b c day) day + (if mSh N s day = mFd a b c day then 0 else 1) ≤ mP N (mFd a b c day) (mS N s 0)
theorem mBook_sh {s a b c e : Int} (h : bkOK N s a b c) {day : Int} : mSh (mBook N s a b c e) s day = mFd a b c day := by
  obtain ⟨-, h2, h3⟩ := h
  unfold mSh mFd
  rw [mBook_5, mBook_4, mBook_6]
  by_cases q : c = 0 ∨ day < c
  · rw [if_pos q, if_neg (by omega)]
  · rw [if_neg q, if_pos (by omega)]
theorem mBook_sh2 {s a b c e t day : Int} (ht : t ≠ s) : mSh (mBook N s a b c e) t day = mSh N t day := by
  unfold mSh
  rw [mBook_t ht (by omega) (by omega), mBook_t ht (by omega) (by omega), mBook_t ht (by omega) (by omega)]
theorem mBook_cnt (hV : mV N) {s a b c e : Int} (h : bkOK N s a b c) (f day : Int) : mCnt (mBook N s a b c e) (mS N s 0) f day = mCnt N (mS N s 0) f day + (zb (mFd a b c day = f) - zb (mSh N s day = f)) := by
  have hs := nS_eq hV
  have hn := hV.n
  obtain ⟨n, hn2⟩ := Int.eq_ofNat_of_zero_le h.1.1
  have e1 : nS (mBook N s a b c e) = nS N := by unfold nS; rw [mBook_o N h.1.1 (by have := h.1.2; omega) (Or.inl (by omega))]
  unfold mCnt mCntN
  rw [e1]
  have := zsum_upd (f := fun t => zb (mS N t 0 = mS N s 0 ∧ mSh N t day = f)) (g := fun t => zb (mS (mBook N s a b c e) t 0 = mS N s 0 ∧ mSh (mBook N s a b c e) t day = f)) (j := n) (n := nS N) (by have := h.1.2; omega) (fun i hi hne => by
    show zb (mS (mBook N s a b c e) i 0 = mS N s 0 ∧ mSh (mBook N s a b c e) i day = f) = zb (mS N i 0 = mS N s 0 ∧ mSh N i day = f)
    rw [mBook_c (by omega) (by omega), mBook_sh2 (by omega)])
  rw [this]
  have e2 : zb (mS (mBook N s a b c e) n 0 = mS N s 0 ∧ mSh (mBook N s a b c e) n day = f) = zb (mFd a b c day = f) := by
    rw [← hn2, mBook_c (by omega) (by omega), mBook_sh h]
    exact zb_congr ⟨fun q => q.2, fun q => ⟨rfl, q⟩⟩
  have e3 : zb (mS N n 0 = mS N s 0 ∧ mSh N n day = f) = zb (mSh N s day = f) := by
    rw [← hn2]
    exact zb_congr ⟨fun q => q.2, fun q => ⟨rfl, q⟩⟩
  rw [e2, e3]
theorem mEn_iff (hV : mV N) (hW : mW N) (hQ : mQ N) {s a b c : Int} (h : bkOK N s a b c) (a0 : 0 ≤ a) : mEn N s a b c ↔ ∀ i : Nat, i < 7 → okD N s a b c i := by
  have hn := hV.n
  have hs := hV.s s h.1.1 (by have := h.1.2; omega)
  have hw := hW s h.1.1 h.1.2
  have key : ∀ f, 0 ≤ f → f < N 2 → ∀ i : Nat, i < 7 → mCnt N (mS N s 0) f i ≤ mP N f (mS N s 0) := fun f f0 f1 i hi => by
    have p := hV.p f (mS N s 0) f0 (by omega) (by omega) (by omega)
    exact (mNeed_le p.1).mp (hQ.p (mS N s 0) f (by omega) (by omega) f0 f1) i hi
  have hp : ∀ f, 0 ≤ f → f < N 2 → 0 ≤ mP N f (mS N s 0) := fun f f0 f1 => (hV.p f (mS N s 0) f0 (by omega) (by omega) (by omega)).1
  have fd : ∀ i : Int, mFd a b c i = a ∨ (mFd a b c i = b ∧ b ≠ -1) := fun i => by
    unfold mFd
    by_cases q : c = 0 ∨ i < c
    · rw [if_pos q]; exact Or.inl rfl
    · rw [if_neg q]; exact Or.inr ⟨rfl, by have := h.2.2; omega⟩
  have ok : ∀ i : Nat, okD N s a b c i ↔ mCnt (mBook N s a b c 0) (mS N s 0) (mFd a b c i) i ≤ mP N (mFd a b c i) (mS N s 0) := fun i => by
    rw [mBook_cnt hV h]
    unfold okD
    rw [← zbT (p := mFd a b c i = mFd a b c i) rfl]
    by_cases q : mSh N s i = mFd a b c i
    · rw [if_pos q, ← zbT q]; omega
    · rw [if_neg q, ← zbF q]; omega
  refine ⟨fun q i hi => (ok i).mpr ?_, fun q => ?_⟩
  · rcases fd i with e | ⟨e, e2⟩
    · rw [e]; exact (mNeed_le (hp a a0 h.2.1.2)).mp q.1 i hi
    · have hb : 0 ≤ b ∧ b < N 2 := by have := h.2.2; omega
      rw [e]; exact (mNeed_le (hp b hb.1 hb.2)).mp (q.2.resolve_left e2) i hi
  · have one : ∀ f, 0 ≤ f → f < N 2 → mNeed (mBook N s a b c 0) (mS N s 0) f ≤ mP N f (mS N s 0) := fun f f0 f1 => (mNeed_le (hp f f0 f1)).mpr fun i hi => by
      by_cases e : mFd a b c i = f
      · have := (ok i).mp (q i hi)
        rw [e] at this
        exact this
      · rw [mBook_cnt hV h, ← zbF e]
        have := key f f0 f1 i hi
        have := zb_ge (mSh N s i = f)
        omega
    refine ⟨one a a0 h.2.1.2, ?_⟩
    by_cases e : b = -1
    · exact Or.inl e
    · have hb : 0 ≤ b ∧ b < N 2 := by have := h.2.2; omega
      exact Or.inr (one b hb.1 hb.2)
theorem mFd_r {s a b c : Int} (h : bkOK N s a b c) (a0 : 0 ≤ a) (day : Int) : 0 ≤ mFd a b c day ∧ mFd a b c day < N 2 := by
  obtain ⟨h1, h2, h3⟩ := h
  unfold mFd
  split <;> omega
/-- a booking keeps what calls keep -/
theorem mBook_cE {s : Int} (s0 : 0 ≤ s) (s1 : s < 10) {a b c e : Int} : cE N (mBook N s a b c e) := by
  have o : ∀ j, j < 14 ∨ 94 ≤ j → mBook N s a b c e j = N j := fun j h => mBook_o N s0 s1 h
  refine ⟨⟨o 0 (by omega), o 1 (by omega), o 2 (by omega)⟩, fun h h0 h1 => mBook_H N s0 s1 h0 h1 (by omega) (by omega), fun t t0 t1 => ⟨mBook_c (by omega) (by omega), mBook_c (by omega) (by omega), mBook_c (by omega) (by omega)⟩, fun f k f0 f1 k0 k1 => mBook_F N s0 s1 f0 k0⟩
theorem mBook_N {T : Int} (g : gN T N) {s a b c e : Int} (h : bkOK N s a b c) (he : (e = 0 ∨ e = 1) ∧ (e = 1 → 0 ≤ a ∧ b = -1)) (hp : ∀ f, 0 ≤ f → f < N 2 → mNeed (mBook N s a b c e) (mS N s 0) f ≤ mP N f (mS N s 0)) : gN T (mBook N s a b c e) := by
  have hn := g.v.n
  obtain ⟨⟨s0, s1⟩, h2, h3⟩ := h
  have h : bkOK N s a b c := ⟨⟨s0, s1⟩, h2, h3⟩
  have s9 : s < 10 := by omega
  have o : ∀ j, j < 14 ∨ 94 ≤ j → mBook N s a b c e j = N j := fun j h => mBook_o N s0 s9 h
  have eS : nS (mBook N s a b c e) = nS N := by unfold nS; rw [o 1 (by omega)]
  refine ⟨mBook_V g.v s0 s9 (by omega) (by omega) (by omega) he.1, mBook_W g.v g.w s0 s9 (by omega) (by omega), fun t t0 t1 => ?_, ⟨fun h' => ?_, fun f f0 f1 => ?_, fun t t0 t1 => ?_, fun h' f h0 h1 f0 f1 => ?_, fun h' f h0 h1 f0 f1 => ?_, fun k k0 k1 => ?_, fun j hj => ?_⟩, ?_⟩
  · rw [o 1 (by omega)] at t1
    have q := g.x t t0 t1
    by_cases z : t = s
    · subst z
      rw [mBook_5, mBook_6, mBook_7]
      exact ⟨by omega, fun q => (he.2 q).2⟩
    · rw [mBook_t z (by omega) (by omega), mBook_t z (by omega) (by omega), mBook_t z (by omega) (by omega)]; exact q
  · unfold mCn
    rw [eS]
    have : zsum (fun t => zb (mS (mBook N s a b c e) t 0 = h')) (nS N) = mCn N h' (nS N) := zsum_congr fun t _ => by rw [mBook_c (by omega) (by omega)]
    rw [this]
    exact g.q.c h'
  · rw [mBook_F N s0 s9 f0 (by omega), o 3 (by omega)]; exact g.q.t f f0 f1
  · rw [o 1 (by omega)] at t1
    have q := g.q.s t t0 t1
    by_cases z : t = s
    · subst z
      rw [mBook_4, mBook_5, mBook_7]
      exact ⟨by omega, fun q => (he.2 q).1⟩
    · rw [mBook_t z (by omega) (by omega), mBook_t z (by omega) (by omega), mBook_t z (by omega) (by omega)]; exact q
  · rw [o 0 (by omega)] at h1
    rw [o 2 (by omega)] at f1
    have eP : mP (mBook N s a b c e) f h' = mP N f h' := by unfold mP; exact o _ (by omega)
    rw [eP]
    by_cases z : h' = mS N s 0
    · subst z; exact hp f f0 f1
    · have : mNeed (mBook N s a b c e) h' f = mNeed N h' f := zmax_congr fun i _ => by
        unfold mCnt mCntN
        rw [eS]
        refine zsum_congr fun t _ => ?_
        rw [mBook_c (by omega) (by omega)]
        by_cases y : (t : Int) = s
        · rw [y]
          exact (zbF (fun q => z q.1.symm)).symm.trans (zbF (fun q => z q.1.symm))
        · rw [mBook_sh2 y]
      rw [this]
      exact g.q.p h' f h0 h1 f0 f1
  · rw [o 3 (by omega)]; unfold mR; rw [o _ (by omega)]; exact g.q.r h' f h0 h1 f0 f1
  · rw [o 3 (by omega), o _ (by omega)]; exact g.q.a k k0 k1
  · rw [mBook_o N s0 s9 (by omega)]; exact g.q.z j hj
  · rw [o 5 (by omega)]; exact g.m
theorem mEn_p {T : Int} (g : gN T N) {s a b c : Int} (h : bkOK N s a b c) (a0 : 0 ≤ a) (q : mEn N s a b c) : ∀ f, 0 ≤ f → f < N 2 → mNeed (mBook N s a b c 0) (mS N s 0) f ≤ mP N f (mS N s 0) := fun f f0 f1 => by
  have hn := g.v.n
  have hs := g.v.s s h.1.1 (by have := h.1.2; omega)
  have hw := g.w s h.1.1 h.1.2
  have p := g.v.p f (mS N s 0) f0 (by omega) (by omega) (by omega)
  by_cases e : f = a
  · rw [e]; exact q.1
  · by_cases e2 : f = b
    · rw [e2]; exact q.2.resolve_left (by omega)
    · refine (mNeed_le p.1).mpr fun i hi => ?_
      have hf : ¬ mFd a b c i = f := by unfold mFd; split <;> omega
      rw [mBook_cnt g.v h, ← zbF hf]
      have := (mNeed_le p.1).mp (g.q.p (mS N s 0) f (by omega) (by omega) f0 f1) i hi
      have := zb_ge (mSh N s i = f)
      omega
theorem mEmp_p {T : Int} (g : gN T N) {s : Int} (s0 : 0 ≤ s) (s1 : s < N 1) : ∀ f, 0 ≤ f → f < N 2 → mNeed (mBook N s (-1) (-1) 0 0) (mS N s 0) f ≤ mP N f (mS N s 0) := fun f f0 f1 => by
  have hn := g.v.n
  have hs := g.v.s s s0 (by omega)
  have hw := g.w s s0 s1
  have p := g.v.p f (mS N s 0) f0 (by omega) (by omega) (by omega)
  refine (mNeed_le p.1).mpr fun i hi => ?_
  have hf : ¬ mFd (-1) (-1) 0 i = f := by unfold mFd; split <;> omega
  rw [mBook_cnt g.v ⟨⟨s0, s1⟩, by omega, by omega⟩, ← zbF hf]
  have := (mNeed_le p.1).mp (g.q.p (mS N s 0) f (by omega) (by omega) f0 f1) i hi
  have := zb_ge (mSh N s i = f)
  omega
/-- the class's cells behind a booking -/
theorem cRs_book {σ1 : zMem} {b : Nat} {s a b' c e : Int} (hV : mV N) (s0 : 0 ≤ s) (s1 : s < 10) (h : cRs N σ B b) (e4 : ∀ t, zia σ1 (B (b + 6)) t = if t = s then a else zia σ (B (b + 6)) t) (e5 : ∀ t, zia σ1 (B (b + 7)) t = if t = s then b' else zia σ (B (b + 7)) t) (e6 : ∀ t, zia σ1 (B (b + 8)) t = if t = s then c else zia σ (B (b + 8)) t)
    (e7 : ∀ t, 0 ≤ t → t < N 1 → zia σ1 (B (b + 9)) t = if t = s then e else zia σ (B (b + 9)) t) (eo : ∀ k, k ≤ 15 → k ≠ 6 → k ≠ 7 → k ≠ 8 → k ≠ 9 → zia σ1 (B (b + k)) = zia σ (B (b + k))) : cRs (mBook N s a b' c e) σ1 B b := by
  have hn := hV.n
  obtain ⟨⟨h1, h2, h3⟩, h4, h5, h6, h7, h8⟩ := h
  have o : ∀ j, j < 14 ∨ 94 ≤ j → mBook N s a b' c e j = N j := fun j h => mBook_o N s0 s1 h
  have q0 : zia σ1 (B b) = zia σ (B b) := eo 0 (by omega) (by omega) (by omega) (by omega) (by omega)
  refine ⟨⟨?_, ?_, ?_⟩, fun x x0 x1 => ⟨?_, fun f f0 f1 => ?_⟩, fun t t0 t1 => ?_, fun f f0 f1 => ?_, fun k k0 k1 => ?_, fun k w k0 k1 w0 w1 => ?_⟩
  · rw [q0, o 3 (by omega)]; exact h1
  · rw [q0, o 5 (by omega)]; exact h2
  · rw [q0, o 4 (by omega)]; exact h3
  · rw [o 0 (by omega)] at x1
    rw [eo 3 (by omega) (by omega) (by omega) (by omega) (by omega), mBook_H N s0 s1 x0 (by omega) (by omega) (by omega)]
    exact (h4 x x0 x1).1
  · rw [o 0 (by omega)] at x1
    rw [o 2 (by omega)] at f1
    rw [eo 13 (by omega) (by omega) (by omega) (by omega) (by omega)]
    unfold mR
    rw [o _ (by omega)]
    exact (h4 x x0 x1).2 f f0 f1
  · rw [o 1 (by omega)] at t1
    obtain ⟨g1, g2, g3, g4, g5⟩ := h5 t t0 t1
    rw [eo 4 (by omega) (by omega) (by omega) (by omega) (by omega), e4, e5, e6, e7 t t0 t1, mBook_c (by omega) (by omega)]
    by_cases z : t = s
    · subst z
      rw [if_pos rfl, if_pos rfl, if_pos rfl, if_pos rfl, mBook_4, mBook_5, mBook_6, mBook_7]
      exact ⟨g1, rfl, rfl, rfl, rfl⟩
    · rw [if_neg z, if_neg z, if_neg z, if_neg z, mBook_t z (by omega) (by omega), mBook_t z (by omega) (by omega), mBook_t z (by omega) (by omega), mBook_t z (by omega) (by omega)]
      exact ⟨g1, g2, g3, g4, g5⟩
  · rw [o 2 (by omega)] at f1
    obtain ⟨g1, g2, g3, g4⟩ := h6 f f0 f1
    have fF : ∀ k, 0 ≤ k → mF (mBook N s a b' c e) f k = mF N f k := fun k hk => mBook_F N s0 s1 f0 hk
    rw [eo 10 (by omega) (by omega) (by omega) (by omega) (by omega), eo 11 (by omega) (by omega) (by omega) (by omega) (by omega), eo 12 (by omega) (by omega) (by omega) (by omega) (by omega), eo 5 (by omega) (by omega) (by omega) (by omega) (by omega), fF 8 (by omega), fF 9 (by omega), mDem_congr (fF 0 (by omega)) (fF 1 (by omega)) (fF 8 (by omega)) (o 3 (by omega))]
    refine ⟨g1, g2, g3, fun p p0 p1 => ?_⟩
    rw [o 0 (by omega)] at p1
    unfold mP
    rw [o _ (by omega)]
    exact g4 p p0 p1
  · rw [eo 14 (by omega) (by omega) (by omega) (by omega) (by omega), o _ (by omega)]; exact h7 k k0 k1
  · rw [o 3 (by omega)] at k1 ⊢
    rw [eo 15 (by omega) (by omega) (by omega) (by omega) (by omega), o _ (by omega)]; exact h8 k w k0 k1 w0 w1
theorem zcp3 {b b' : Nat} {h h' : Nat} (e : zE G mX8_copyFrom d [zR h, zR h'] σ (fun ro σ1 => ro = .inl none ∧ zCpA [(15, 100), (14, 4), (13, 24), (12, 6), (11, 6), (10, 6), (9, 10), (8, 10), (7, 10), (6, 10), (5, 30), (4, 10), (3, 4)] [2, 1, 0] σ B b b' σ1)) : zE G mX8_copyFrom d [zR h, zR h'] σ (fun ro σ1 => ro = .inl none ∧ zFr (zBk B b) σ σ1 ∧ zCpA [(15, 100), (14, 4), (13, 24), (12, 6), (11, 6), (10, 6), (9, 10), (8, 10), (7, 10), (6, 10), (5, 30), (4, 10), (3, 4)] [2, 1, 0] σ B b b' σ1) := e.mono fun _ _ q => ⟨q.1, q.2.1, q.2⟩
theorem zt_X4_record {H : Int → Int → Int} {u nx : Int} (hB : cM σ B) (hH : cHs σ B) (hV : mV N) (hR : cRs N σ B 200) (hr : cHr H u nx σ B) : zE G mX4_record (d + 3) [zR (B 600), zR (B 200)] σ (fun ro σ1 => ro = .inl none ∧ zFr (cHm B) σ σ1 ∧ cHr (hsR H u N) (min (u + 1) 10) ((nx + 1) % 10) σ1 B) := by
  refine zE_of rfl (by simp [zcat]) (Nat.le_of_ble_eq_true rfl) ?_
  show zF G mX4_record (d + 3) 0 [(0, zR (B 600)), (1, zR (B 200))] [] σ _
  have hb := hV.b
  obtain ⟨-, -, hrr, -⟩ := id hr
  refine zF_aload_n 1 dX4_record_0 rfl rfl ?_
  refine zF_getR 4 dX4_record_1 rfl gX4_11 hH.1 hH.2.1 hH.2.2.1 ?_
  refine zF_aload_n 5 dX4_record_4 rfl rfl ?_
  refine zF_getI 8 dX4_record_5 rfl gX4_22 (by decide) (by decide) hH.1 hH.2.1 hr.1 ?_
  refine zF_aaload 9 dX4_record_8 rfl (by decide) hH.2.2.2.2.1 hH.2.2.2.2.2.1 (by omega) (by omega) (hH.2.2.2.2.2.2.1 nx (by omega) (by omega)).1 ?_
  refine zF_aload_n 10 dX4_record_9 rfl rfl ?_
  refine zF_callV 13 (d2 := (d + 2)) (as := [zR (B 200)]) dX4_record_10 rfl kX4_26 iX8_copyFrom (ci := 8) rfl eX8_copyFrom (Nat.le_refl _) (hH.2.2.2.2.2.2.1 nx (by omega) (by omega)).2.1 (hH.2.2.2.2.2.2.1 nx (by omega) (by omega)).2.2.1 rfl rfl (Nat.le_of_ble_eq_true rfl) (zE.mono (zcp3 (zt_X8_copyFrom (b := slb nx) (b' := 200) hB.inj (by have := slb_r (i := nx) (by omega) (by omega); omega) (hH.2.2.2.2.2.2.1 nx (by omega) (by omega)).2 hB.st)) fun ro σa1 hh1 => ?_)
  obtain ⟨er1, fr1, p1⟩ := hh1
  subst er1
  refine ⟨fr1.1, ?_⟩
  show zF G mX4_record (d + 3) 13 [(0, zR (B 600)), (1, zR (B 200))] [] σa1 _
  have hHa := cHs_fr hH fr1
  have hsl := slb_r (i := nx) (by omega) (by omega)
  have e1 : zia σa1 (B 600) ((1 : Nat) : Int) = nx := (p1.1.2.2.2.2.2 _ _ (fun ⟨k, hk, e⟩ => by have := hB.inj _ _ e; omega)).trans hr.1
  have e2 : zia σa1 (B 600) ((2 : Nat) : Int) = u := (p1.1.2.2.2.2.2 _ _ (fun ⟨k, hk, e⟩ => by have := hB.inj _ _ e; omega)).trans hr.2.1
  refine zF_aload_n 14 dX4_record_13 rfl rfl ?_
  refine zF_aload_n 15 dX4_record_14 rfl rfl ?_
  refine zF_getI 18 dX4_record_15 rfl gX4_22 (by decide) (by decide) hHa.1 hHa.2.1 e1 ?_
  refine zF_iconst 19 dX4_record_18 rfl ?_
  refine zF_iadd 20 dX4_record_19 rfl ?_
  refine zF_bipush 22 dX4_record_20 rfl (by decide) ?_
  refine zF_irem 23 dX4_record_22 rfl (by omega) (by omega) (by omega) (by omega) ?_
  refine zF_putI 26 dX4_record_23 rfl pX4_record_22 (Or.inl rfl) hHa.1 hHa.2.1 ?_
  refine zF_aload_n 27 dX4_record_26 rfl rfl ?_
  refine zF_aload_n 28 dX4_record_27 rfl rfl ?_
  refine zF_getI 31 dX4_record_28 rfl gX4_30 (by decide) (by decide) hHa.1 hHa.2.1 (zsi_F (by decide) e2) ?_
  refine zF_iconst 32 dX4_record_31 rfl ?_
  refine zF_iadd 33 dX4_record_32 rfl ?_
  refine zF_bipush 35 dX4_record_33 rfl (by decide) ?_
  refine zF_min 38 dX4_record_35 rfl kX4_33 (Nat.le_refl _) (by first | decide | assumption | exact hb _ | exact zb_rg _ | (constructor <;> omega)) (by first | decide | assumption | exact hb _ | exact zb_rg _ | (constructor <;> omega)) (Nat.le_of_ble_eq_true rfl) ?_
  refine zF_putI 41 dX4_record_38 rfl pX4_record_30 (Or.inl rfl) hHa.1 hHa.2.1 ?_
  exact zF_return dX4_record_41 rfl (⟨rfl, zFr_si (Or.inl ⟨rfl, Or.inr rfl⟩) (zFr_si (Or.inl ⟨rfl, Or.inl rfl⟩) ((zBk_rg (lo := 1000) (hi := 2000) (by omega) fr1).wk fun _ _ q => Or.inr q)), zH_rec hB.inj hV hR hr p1 rfl rfl⟩)
theorem zH_tb {H : Int → Int → Int} {u nx : Int} {σ1 σ2 : zMem} (hi : ∀ i j, B i = B j → i = j) (hr : cHr H u nx σ B) (u1 : 1 ≤ u) {v w : Int} (ev : v = (nx + 9) % 10) (ew : w = u - 1) (e1 : σ1 = zsi σ (B 600) ((1 : Nat) : Int) v) (f : zFr (zBk B 200) σ1 σ2) : cHr H (u - 1) ((nx + 9) % 10) (zsi σ2 (B 600) ((2 : Nat) : Int) w) B := by
  obtain ⟨r1, r2, ⟨x0, x1, u0, u2⟩, r3⟩ := hr
  subst e1
  refine ⟨?_, ?_, ⟨by omega, by omega, by omega, by omega⟩, fun k k0 k1 => ?_⟩
  · rw [zia_si, if_neg (by intro q; exact absurd q.2 (by decide)), f.2.2.2.2.2 _ _ (fun ⟨k, hk, e⟩ => by have := hi _ _ e; omega), zia_si, if_pos ⟨rfl, rfl⟩, ev]
  · rw [zia_si, if_pos ⟨rfl, rfl⟩, ew]
  · have q : ((nx + 9) % 10 + 10 - (u - 1) + k) % 10 = (nx + 10 - u + k) % 10 := by omega
    rw [q]
    have hs := slb_r (i := (nx + 10 - u + k) % 10) (by omega) (by omega)
    exact cRs_si (fun k hk e => by have := hi _ _ e; omega) (cRs_bk hi f (by omega) (cRs_si (fun k hk e => by have := hi _ _ e; omega) (r3 k k0 (by omega))))
theorem zt_X4_takeBack {H : Int → Int → Int} {u nx : Int} (hB : cM σ B) (hH : cHs σ B) (hr : cHr H u nx σ B) (u1 : 1 ≤ u) (hV : mV (H (u - 1))) : zE G mX4_takeBack (d + 3) [zR (B 600), zR (B 200)] σ (fun ro σ1 => ro = .inl none ∧ zFr (cMu B) σ σ1 ∧ zFr (fun h j => zRg 200 216 B h j ∨ zRg 600 602 B h j) σ σ1 ∧ cRs (H (u - 1)) σ1 B 200 ∧ cHr H (u - 1) ((nx + 9) % 10) σ1 B) := by
  refine zE_of rfl (by simp [zcat]) (Nat.le_of_ble_eq_true rfl) ?_
  show zF G mX4_takeBack (d + 3) 0 [(0, zR (B 600)), (1, zR (B 200))] [] σ _
  obtain ⟨-, -, hrr, hrow⟩ := id hr
  have hb := hV.b
  refine zF_aload_n 1 dX4_takeBack_0 rfl rfl ?_
  refine zF_aload_n 2 dX4_takeBack_1 rfl rfl ?_
  refine zF_getI 5 dX4_takeBack_2 rfl gX4_22 (by decide) (by decide) hH.1 hH.2.1 hr.1 ?_
  refine zF_bipush 7 dX4_takeBack_5 rfl (by decide) ?_
  refine zF_iadd 8 dX4_takeBack_7 rfl ?_
  refine zF_iconst 9 dX4_takeBack_8 rfl ?_
  refine zF_isub 10 dX4_takeBack_9 rfl ?_
  refine zF_bipush 12 dX4_takeBack_10 rfl (by decide) ?_
  refine zF_irem 13 dX4_takeBack_12 rfl (by omega) (by omega) (by omega) (by omega) ?_
  refine zF_putI 16 dX4_takeBack_13 rfl pX4_takeBack_22 (Or.inl rfl) hH.1 hH.2.1 ?_
  refine zF_aload_n 17 dX4_takeBack_16 rfl rfl ?_
  refine zF_aload_n 18 dX4_takeBack_17 rfl rfl ?_
  refine zF_getR 21 dX4_takeBack_18 rfl gX4_11 hH.1 hH.2.1 hH.2.2.1 ?_
  refine zF_aload_n 22 dX4_takeBack_21 rfl rfl ?_
  refine zF_getI 25 dX4_takeBack_22 rfl gX4_22 (by decide) (by decide) hH.1 hH.2.1 (zsi_same _ _ _ _) ?_
  refine zF_aaload 26 dX4_takeBack_25 rfl (by decide) hH.2.2.2.2.1 hH.2.2.2.2.2.1 (by omega) (by omega) (hH.2.2.2.2.2.2.1 ((nx + 10 - 1) % 10) (by omega) (by omega)).1 ?_
  refine zF_callV 29 (d2 := (d + 2)) (as := [zR (B (slb ((nx + 10 - 1) % 10)))]) dX4_takeBack_26 rfl kX4_26 iX8_copyFrom (ci := 8) rfl eX8_copyFrom (Nat.le_refl _) hB.st.1 hB.st.2.1 rfl rfl (Nat.le_of_ble_eq_true rfl) (zE.mono (zcp3 (zt_X8_copyFrom (σ := (zsi σ (B 600) ((1 : Nat) : Int) (((nx + 10) - 1) % 10))) (b := 200) (b' := slb ((nx + 10 - 1) % 10)) hB.inj (by have := slb_r (i := (nx + 10 - 1) % 10) (by omega) (by omega); omega) hB.st (hH.2.2.2.2.2.2.1 ((nx + 10 - 1) % 10) (by omega) (by omega)).2)) fun ro σa1 hh1 => ?_)
  obtain ⟨er1, fr1, p1⟩ := hh1
  subst er1
  refine ⟨fr1.1, ?_⟩
  show zF G mX4_takeBack (d + 3) 29 [(0, zR (B 600)), (1, zR (B 200))] [] σa1 _
  have hHa := cHs_fr (σ := (zsi σ (B 600) ((1 : Nat) : Int) (((nx + 10) - 1) % 10))) hH fr1
  have e2 : zia σa1 (B 600) ((2 : Nat) : Int) = u := (p1.1.2.2.2.2.2 _ _ (fun ⟨k, hk, e⟩ => by have := hB.inj _ _ e; omega)).trans (zsi_F (by decide) hr.2.1)
  refine zF_aload_n 30 dX4_takeBack_29 rfl rfl ?_
  refine zF_dup 31 dX4_takeBack_30 rfl rfl ?_
  refine zF_getI 34 dX4_takeBack_31 rfl gX4_30 (by decide) (by decide) hHa.1 hHa.2.1 e2 ?_
  refine zF_iconst 35 dX4_takeBack_34 rfl ?_
  refine zF_isub 36 dX4_takeBack_35 rfl ?_
  refine zF_putI 39 dX4_takeBack_36 rfl pX4_takeBack_30 (Or.inl rfl) hHa.1 hHa.2.1 ?_
  exact zF_return dX4_takeBack_39 rfl (⟨rfl, zFr_si (Or.inr (Or.inl ⟨rfl, Or.inr rfl⟩)) ((zFr_si (Or.inr (Or.inl ⟨rfl, Or.inl rfl⟩)) zFr.rf).tr (zRg_mu hB.inj (zBk_rg (lo := 200) (hi := 216) (by omega) fr1) (by omega))), zFr_si (Or.inr (zRg.mk (by omega))) ((zFr_si (Or.inr (zRg.mk (by omega))) zFr.rf).tr ((zBk_rg (lo := 200) (hi := 216) (by omega) fr1).wk fun _ _ q => Or.inl q)), cRs_si (fun k hk e => by have := hB.inj _ _ e; omega) (cRs_cp hV p1 (cRs_si (fun k hk e => by have := hB.inj _ _ e; have := slb_r (i := (nx + 10 - 1) % 10) (by omega) (by omega); omega) (by have := hrow (u - 1) (by omega) (by omega); rw [show (nx + 10 - u + (u - 1)) % 10 = (nx + 10 - 1) % 10 by omega] at this; exact this))), zH_tb hB.inj hr u1 (by omega) rfl rfl fr1⟩)
end ZC7

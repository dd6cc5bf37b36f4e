/-! operations, as numbers -/
section ZC8
variable {G : zG} {d : Nat} {σ : zMem} {B : Nat → Nat} {N : Int → Int}
theorem cRs_gen {N' : Int → Int} {σ1 : zMem} {b : Nat} (hV : mV N) (h : cRs N σ B b)
    (e : zia σ1 (B b) ((0 : Nat) : Int) = N' 3 ∧ zia σ1 (B b) ((1 : Nat) : Int) = N' 5 ∧ zia σ1 (B b) ((2 : Nat) : Int) = N' 4)
    (n : N' 0 = N 0 ∧ N' 1 = N 1 ∧ N' 2 = N 2 ∧ N' 3 = N 3)
    (eh : ∀ x, 0 ≤ x → x < N 0 → zia σ1 (B (b + 3)) x = mH N' x 1)
    (es : ∀ s, 0 ≤ s → s < N 1 → zia σ1 (B (b + 4)) s = mS N' s 3)
    (ep : ∀ f p, 0 ≤ f → f < N 2 → -1 ≤ p → p < N 0 → zia σ1 (B (b + 5)) (f * 5 + p + 1) = mP N' f p)
    (eo : ∀ k, 6 ≤ k → k ≤ 15 → zia σ1 (B (b + k)) = zia σ (B (b + k)))
    (nS' : ∀ s k, 0 ≤ s → s < 10 → 4 ≤ k → k < 8 → mS N' s k = mS N s k)
    (no : ∀ j, (94 ≤ j ∧ j < 154) ∨ 184 ≤ j → N' j = N j) : cRs N' σ1 B b := by
  have hn := hV.n
  obtain ⟨⟨h1, h2, h3⟩, h4, h5, h6, h7, h8⟩ := h
  obtain ⟨n0, n1, n2, n3⟩ := n
  have fF : ∀ f k, 0 ≤ f → f < 6 → 0 ≤ k → k < 10 → mF N' f k = mF N f k := fun f k f0 f1 k0 k1 => no _ (by omega)
  refine ⟨e, fun x x0 x1 => ⟨?_, fun f f0 f1 => ?_⟩, fun t t0 t1 => ?_, fun f f0 f1 => ?_, fun k k0 k1 => ?_, fun k w k0 k1 w0 w1 => ?_⟩
  · rw [n0] at x1; exact eh x x0 x1
  · rw [n0] at x1
    rw [n2] at f1
    rw [eo 13 (by omega) (by omega)]
    unfold mR
    rw [no _ (by omega)]
    exact (h4 x x0 x1).2 f f0 f1
  · rw [n1] at t1
    obtain ⟨g1, g2, g3, g4, g5⟩ := h5 t t0 t1
    rw [eo 6 (by omega) (by omega), eo 7 (by omega) (by omega), eo 8 (by omega) (by omega), eo 9 (by omega) (by omega), nS' t 4 t0 (by omega) (by omega) (by omega), nS' t 5 t0 (by omega) (by omega) (by omega), nS' t 6 t0 (by omega) (by omega) (by omega), nS' t 7 t0 (by omega) (by omega) (by omega)]
    exact ⟨es t t0 t1, g2, g3, g4, g5⟩
  · rw [n2] at f1
    obtain ⟨g1, g2, g3, g4⟩ := h6 f f0 f1
    have f6 : f < 6 := by omega
    rw [eo 10 (by omega) (by omega), eo 11 (by omega) (by omega), eo 12 (by omega) (by omega), fF f 8 f0 f6 (by omega) (by omega), fF f 9 f0 f6 (by omega) (by omega), mDem_congr (fF f 0 f0 f6 (by omega) (by omega)) (fF f 1 f0 f6 (by omega) (by omega)) (fF f 8 f0 f6 (by omega) (by omega)) n3]
    refine ⟨g1, g2, g3, fun p p0 p1 => ?_⟩
    rw [n0] at p1
    exact ep f p f0 f1 p0 p1
  · rw [eo 14 (by omega) (by omega), no _ (by omega)]; exact h7 k k0 k1
  · rw [n3] at k1 ⊢
    rw [eo 15 (by omega) (by omega), no _ (by omega)]; exact h8 k w k0 k1 w0 w1
/-- settings, prints and moves changed -/
def oE (N N' : Int → Int) : Prop := ∀ j, j ≠ 4 → j ≠ 5 → ¬ (154 ≤ j ∧ j < 184) → (∀ h, 0 ≤ h → h < 4 → j ≠ 6 + 2 * h + 1) → (∀ s, 0 ≤ s → s < 10 → j ≠ 14 + 8 * s + 3) → N' j = N j
theorem oE.c {N' : Int → Int} (o : oE N N') : cE N N' :=
  ⟨⟨o 0 (by omega) (by omega) (by omega) (by omega) (by omega), o 1 (by omega) (by omega) (by omega) (by omega) (by omega), o 2 (by omega) (by omega) (by omega) (by omega) (by omega)⟩, fun h h0 h1 => o _ (by omega) (by omega) (by omega) (by omega) (by omega), fun s s0 s1 => ⟨o _ (by omega) (by omega) (by omega) (by omega) (by omega), o _ (by omega) (by omega) (by omega) (by omega) (by omega), o _ (by omega) (by omega) (by omega) (by omega) (by omega)⟩, fun f k f0 f1 k0 k1 => o _ (by omega) (by omega) (by omega) (by omega) (by omega)⟩
theorem oE.s {N' : Int → Int} (o : oE N N') {s k : Int} (s0 : 0 ≤ s) (s1 : s < 10) (k0 : 0 ≤ k) (k1 : k < 8) (hk : k ≠ 3) : mS N' s k = mS N s k := o _ (by omega) (by omega) (by omega) (by omega) (by omega)
theorem oE.f {N' : Int → Int} (o : oE N N') {f k : Int} (f0 : 0 ≤ f) (f1 : f < 6) (k0 : 0 ≤ k) (k1 : k < 10) : mF N' f k = mF N f k := o _ (by omega) (by omega) (by omega) (by omega) (by omega)
theorem oE.h {N' : Int → Int} (o : oE N N') {j : Int} (hj : 184 ≤ j) : N' j = N j := o _ (by omega) (by omega) (by omega) (by omega) (by omega)
theorem oE.i {N' : Int → Int} (o : oE N N') {j : Int} (hj : j < 4) : N' j = N j := o _ (by omega) (by omega) (by omega) (by omega) (by omega)
theorem oE.need {N' : Int → Int} (o : oE N N') (hV : mV N) (h f : Int) : mNeed N' h f = mNeed N h f := by
  have hs := nS_eq hV
  have e := o.c.nS
  refine zmax_congr fun i _ => ?_
  unfold mCnt mCntN
  rw [e]
  refine zsum_congr fun t ht => ?_
  unfold mSh
  rw [o.s (k := 0) (by omega) (by omega) (by omega) (by omega) (by omega), o.s (k := 4) (by omega) (by omega) (by omega) (by omega) (by omega), o.s (k := 5) (by omega) (by omega) (by omega) (by omega) (by omega), o.s (k := 6) (by omega) (by omega) (by omega) (by omega) (by omega)]
theorem oE.gv {N' : Int → Int} (o : oE N N') (hV : mV N) {s : Int} (s0 : 0 ≤ s) (s1 : s < 10) (day : Int) : gv N' s day = gv N s day := by
  have hn := hV.n
  exact gv_congr hV o.c (fun s k s0 s1 k0 k1 => o.s s0 s1 (by omega) (by omega) (by omega)) (fun f f0 f1 => mDem_congr (o.f f0 (by omega) (by omega) (by omega)) (o.f f0 (by omega) (by omega) (by omega)) (o.f f0 (by omega) (by omega) (by omega)) (o.i (by omega))) s day s0 s1
theorem gN_gen {N' : Int → Int} {T T' : Int} (g : gN T N) (o : oE N N') (r4 : zrg (N' 4)) (r5 : 0 ≤ N' 5 ∧ N' 5 ≤ T') (hT : T' < 2147483648) (rh : ∀ h, 0 ≤ h → h < 4 → 0 ≤ mH N' h 1 ∧ mH N' h 1 ≤ 100) (rs : ∀ s, 0 ≤ s → s < 10 → 0 ≤ mS N' s 3 ∧ mS N' s 3 ≤ 9999)
    (rp : ∀ f p, 0 ≤ f → f < 6 → -1 ≤ p → p < 4 → 0 ≤ mP N' f p ∧ mP N' f p ≤ 9) (need : ∀ h f, 0 ≤ h → h < N 0 → 0 ≤ f → f < N 2 → mNeed N h f ≤ mP N' f h) : gN T' N' := by
  obtain ⟨hV, hW, hX, hQ, hm⟩ := g
  have hn := hV.n
  have hb : ∀ j, zrg (N' j) := fun j => by
    by_cases c4 : j = 4
    · rw [c4]; exact r4
    by_cases c5 : j = 5
    · rw [c5]; constructor <;> omega
    by_cases cp : 154 ≤ j ∧ j < 184
    · have := rp ((j - 154) / 5) ((j - 154) % 5 - 1) (by omega) (by omega) (by omega) (by omega)
      unfold mP at this
      rw [show 154 + 5 * ((j - 154) / 5) + ((j - 154) % 5 - 1) + 1 = j by omega] at this
      constructor <;> omega
    by_cases ch : 6 ≤ j ∧ j < 14 ∧ j % 2 = 1
    · have := rh ((j - 6) / 2) (by omega) (by omega)
      unfold mH at this
      rw [show 6 + 2 * ((j - 6) / 2) + 1 = j by omega] at this
      constructor <;> omega
    by_cases cs : 14 ≤ j ∧ j < 94 ∧ (j - 14) % 8 = 3
    · have := rs ((j - 14) / 8) (by omega) (by omega)
      unfold mS at this
      rw [show 14 + 8 * ((j - 14) / 8) + 3 = j by omega] at this
      constructor <;> omega
    · rw [o j c4 c5 cp (fun h h0 h1 e => ch (by omega)) (fun s s0 s1 e => cs (by omega))]
      exact hV.b j
  refine ⟨⟨?_, hb, fun s s0 s1 => ?_, fun f f0 f1 => ?_, fun f k f0 f1 k0 k1 => ?_, fun h h0 h1 => ?_, fun h f h0 h1 f0 f1 => ?_, rp⟩, fun s s0 s1 => ?_, fun s s0 s1 => ?_, ⟨fun h => ?_, fun f f0 f1 => ?_, fun s s0 s1 => ?_, fun h f h0 h1 f0 f1 => ?_, fun h f h0 h1 f0 f1 => ?_, fun k k0 k1 => ?_, fun j hj => ?_⟩, r5⟩
  · rw [o.i (by omega), o.i (by omega), o.i (by omega), o.i (by omega)]; exact hn
  · have q := hV.s s s0 s1
    have r := rs s s0 s1
    rw [o.s (k := 0) s0 s1 (by omega) (by omega) (by omega), o.s (k := 1) s0 s1 (by omega) (by omega) (by omega), o.s (k := 2) s0 s1 (by omega) (by omega) (by omega), o.s (k := 4) s0 s1 (by omega) (by omega) (by omega), o.s (k := 5) s0 s1 (by omega) (by omega) (by omega), o.s (k := 6) s0 s1 (by omega) (by omega) (by omega), o.s (k := 7) s0 s1 (by omega) (by omega) (by omega)]
    omega
  · rw [o.f (k := 0) f0 f1 (by omega) (by omega), o.f (k := 1) f0 f1 (by omega) (by omega), o.f (k := 2) f0 f1 (by omega) (by omega), o.f (k := 3) f0 f1 (by omega) (by omega), o.f (k := 8) f0 f1 (by omega) (by omega), o.i (j := 2) (by omega), o.i (j := 3) (by omega)]
    exact hV.f f f0 f1
  · rw [o.f f0 f1 (by omega) (by omega)]; exact hV.t f k f0 f1 k0 k1
  · rw [o.c.2.1 h h0 h1]
    have := hV.h h h0 h1
    have := rh h h0 h1
    omega
  · have e : mR N' h f = mR N h f := o.h (by omega)
    rw [e, o.i (by omega)]
    exact hV.r h f h0 h1 f0 f1
  · rw [o.i (by omega)] at s1
    rw [o.s (k := 0) s0 (by omega) (by omega) (by omega) (by omega), o.s (k := 4) s0 (by omega) (by omega) (by omega) (by omega), o.s (k := 5) s0 (by omega) (by omega) (by omega) (by omega), o.i (j := 0) (by omega), o.i (j := 2) (by omega)]
    exact hW s s0 s1
  · rw [o.i (by omega)] at s1
    rw [o.s (k := 5) s0 (by omega) (by omega) (by omega) (by omega), o.s (k := 6) s0 (by omega) (by omega) (by omega) (by omega), o.s (k := 7) s0 (by omega) (by omega) (by omega) (by omega)]
    exact hX s s0 s1
  · have hs := nS_eq hV
    have : mCn N' h (nS N') = mCn N h (nS N) := by
      unfold mCn
      rw [o.c.nS]
      exact zsum_congr fun t ht => by rw [o.s (k := 0) (by omega) (by omega) (by omega) (by omega) (by omega)]
    rw [this]
    exact hQ.c h
  · rw [o.f f0 f1 (by omega) (by omega), o.i (by omega)]; exact hQ.t f f0 f1
  · rw [o.i (by omega)] at s1
    rw [o.s (k := 4) s0 (by omega) (by omega) (by omega) (by omega), o.s (k := 5) s0 (by omega) (by omega) (by omega) (by omega), o.s (k := 7) s0 (by omega) (by omega) (by omega) (by omega)]
    exact hQ.s s s0 s1
  · rw [o.i (by omega)] at h1
    rw [o.i (by omega)] at f1
    rw [o.need hV]
    exact need h f h0 h1 f0 f1
  · have e : mR N' h f = mR N h f := o.h (by omega)
    rw [e, o.i (by omega)]
    exact hQ.r h f h0 h1 f0 f1
  · rw [o.h (by omega), o.i (by omega)]; exact hQ.a k k0 k1
  · rw [o j (by omega) (by omega) (by omega) (by omega) (by omega)]; exact hQ.z j hj
def mMv (N : Int → Int) (f p q : Int) : Int → Int := mSet (mSet (mSet N (154 + 5 * f + p + 1) (mP N f p - 1)) (154 + 5 * f + q + 1) (mP N f q + 1)) 5 (N 5 + 1)
theorem mMv_o {f p q : Int} (f0 : 0 ≤ f) (f1 : f < 6) (p0 : -1 ≤ p) (p1 : p < 4) (q0 : -1 ≤ q) (q1 : q < 4) : oE N (mMv N f p q) := fun j h4 h5 hp hh hs => by
  unfold mMv
  rw [mSet_o h5, mSet_o (by omega), mSet_o (by omega)]
theorem mMv_p {f p q f2 p2 : Int} (f0 : 0 ≤ f) (p0 : -1 ≤ p) (p1 : p < 4) (q0 : -1 ≤ q) (q1 : q < 4) (pq : p ≠ q) (g0 : 0 ≤ f2) (p20 : -1 ≤ p2) (p21 : p2 < 4) : mP (mMv N f p q) f2 p2 = if f2 = f ∧ p2 = q then mP N f q + 1 else if f2 = f ∧ p2 = p then mP N f p - 1 else mP N f2 p2 := by
  show mMv N f p q (154 + 5 * f2 + p2 + 1) = _
  unfold mMv
  rw [mSet_o (by omega)]
  by_cases c : f2 = f ∧ p2 = q
  · rw [if_pos c, c.1, c.2, mSet_at]
  · rw [if_neg c, mSet_o (by omega)]
    by_cases c2 : f2 = f ∧ p2 = p
    · rw [if_pos c2, c2.1, c2.2, mSet_at]
    · rw [if_neg c2, mSet_o (by omega)]
      rfl
theorem mMv_N {T : Int} (g : gN T N) (hT : T < 1000000) {f p q : Int} (f0 : 0 ≤ f) (f1 : f < N 2) (p0 : -1 ≤ p) (p1 : p < N 0) (q0 : -1 ≤ q) (q1 : q < N 0) (pq : p ≠ q) (c1 : mP N f p ≠ 0) (c2 : ¬ (p ≠ -1 ∧ mP N f p ≤ mNeed N p f)) (c3 : ¬ 9 ≤ mP N f q) : gN (T + 1) (mMv N f p q) := by
  have hn := g.v.n
  have o := mMv_o (N := N) (f := f) (p := p) (q := q) f0 (by omega) p0 (by omega) q0 (by omega)
  have e4 : mMv N f p q 4 = N 4 := by unfold mMv; rw [mSet_o (by omega), mSet_o (by omega), mSet_o (by omega)]
  have e5 : mMv N f p q 5 = N 5 + 1 := by unfold mMv; rw [mSet_at]
  have hm := g.m
  have hp := g.v.p f p f0 (by omega) p0 (by omega)
  have hq := g.v.p f q f0 (by omega) q0 (by omega)
  refine gN_gen g o (by rw [e4]; exact g.v.b 4) (by rw [e5]; omega) (by omega) (fun h h0 h1 => ?_) (fun s s0 s1 => ?_) (fun f2 p2 g0 g1 r0 r1 => ?_) (fun h f2 h0 h1 g0 g1 => ?_)
  · have : mH (mMv N f p q) h 1 = mH N h 1 := by unfold mH mMv; rw [mSet_o (by omega), mSet_o (by omega), mSet_o (by omega)]
    rw [this]
    have := g.v.h h h0 h1
    omega
  · have : mS (mMv N f p q) s 3 = mS N s 3 := by unfold mS mMv; rw [mSet_o (by omega), mSet_o (by omega), mSet_o (by omega)]
    rw [this]
    have := g.v.s s s0 s1
    omega
  · rw [mMv_p f0 p0 (by omega) q0 (by omega) pq g0 r0 r1]
    have := g.v.p f2 p2 g0 g1 r0 r1
    split
    · omega
    · split <;> omega
  · rw [mMv_p f0 p0 (by omega) q0 (by omega) pq g0 (by omega) (by omega)]
    have := g.q.p h f2 h0 h1 g0 g1
    split
    · rename_i z; rw [z.1, z.2] at this ⊢; omega
    · split
      · rename_i z; rw [z.1, z.2] at this ⊢; omega
      · exact this
theorem mSet_oE {j v : Int} (h : j = 4 ∨ (∃ x, 0 ≤ x ∧ x < 4 ∧ j = 6 + 2 * x + 1) ∨ ∃ s, 0 ≤ s ∧ s < 10 ∧ j = 14 + 8 * s + 3) : oE N (mSet N j v) := fun i h4 h5 hp hh hs => by
  refine mSet_o fun e => ?_
  rcases h with z | ⟨x, x0, x1, z⟩ | ⟨s, s0, s1, z⟩
  · exact h4 (by omega)
  · exact hh x x0 x1 (by omega)
  · exact hs s s0 s1 (by omega)
/-- the table stays -/
theorem cR_oE {N' : Int → Int} {σ1 : zMem} (hV : mV N) (o : oE N N') (h : cR N σ B) (hs : cRs N' σ1 B 200) (ec : ∀ k, k ≤ 12 → zia σ1 (B (100 + k)) = zia σ (B (100 + k))) (et : zia σ1 (B 302) = zia σ (B 302)) : cR N' σ1 B :=
  ⟨cRc_cE hV o.c (cRc_congr ec h.1), hs, fun s dd s0 s1 d0 d1 => by
    have hn := hV.n
    have := o.c.1.2.1
    rw [et, o.gv hV s0 (by omega)]
    exact h.2.2 s dd s0 (by omega) d0 d1⟩
/-- what the operations answer and leave -/
def oBkV (N : Int → Int) (s a b c : Int) : Int := if mS N s 7 ≠ 0 then -2 else if mEn N s a b c then cTake (mBook N s a b c 0) s else -3
def oBkS (S : zS) (s a b c : Int) : zS := if mS S.1 s 7 = 0 ∧ mEn S.1 s a b c then sRec S (mBook S.1 s a b c 0) else S
def oEmV (N : Int → Int) (s : Int) : Int := if mS N s 7 ≠ 0 then -2 else mS N s 4
def oEmS (S : zS) (s : Int) : zS := if mS S.1 s 7 = 0 then sRec S (mBook S.1 s (-1) (-1) 0 0) else S
def oMvV (N : Int → Int) (f p q : Int) : Int := if mP N f p = 0 then -2 else if p ≠ -1 ∧ mP N f p ≤ mNeed N p f then -3 else if 9 ≤ mP N f q then -4 else mP N f q + 1
def oMvS (S : zS) (f p q : Int) : zS := if mP S.1 f p = 0 ∨ (p ≠ -1 ∧ mP S.1 f p ≤ mNeed S.1 p f) ∨ 9 ≤ mP S.1 f q then S else sRec S (mMv S.1 f p q)
def oUnV (S : zS) : Int := if S.2.2 = 0 then -1 else S.2.2 - 1
def oUnS (S : zS) : zS := if S.2.2 = 0 then S else (S.2.1 (S.2.2 - 1), S.2.1, S.2.2 - 1)
theorem gS_bk {T : Int} {S : zS} (h : gS T S) {s a b c : Int} (hk : bkOK S.1 s a b c) (a0 : 0 ≤ a) : gS T (oBkS S s a b c) := by
  unfold oBkS
  split
  · rename_i q
    exact gS_rec h (mBook_N h.n hk ⟨Or.inl rfl, fun z => absurd z (by decide)⟩ (mEn_p h.n hk a0 q.2)) (mBook_cE hk.1.1 (by have := hk.1.2; have := h.n.v.n; omega))
  · exact h
theorem gS_em {T : Int} {S : zS} (h : gS T S) {s : Int} (s0 : 0 ≤ s) (s1 : s < S.1 1) : gS T (oEmS S s) := by
  have hn := h.n.v.n
  unfold oEmS
  split
  · exact gS_rec h (mBook_N h.n ⟨⟨s0, s1⟩, by omega, by omega⟩ ⟨Or.inl rfl, fun z => absurd z (by decide)⟩ (mEmp_p h.n s0 s1)) (mBook_cE s0 (by omega))
  · exact h
theorem gS_mv {T : Int} {S : zS} (h : gS T S) (hT : T < 1000000) {f p q : Int} (f0 : 0 ≤ f) (f1 : f < S.1 2) (p0 : -1 ≤ p) (p1 : p < S.1 0) (q0 : -1 ≤ q) (q1 : q < S.1 0) (pq : p ≠ q) : gS (T + 1) (oMvS S f p q) := by
  have hn := h.n.v.n
  unfold oMvS
  split
  · exact h.up (by omega)
  · rename_i z
    exact gS_rec (h.up (by omega)) (mMv_N h.n hT f0 f1 p0 p1 q0 q1 pq (fun c => z (Or.inl c)) (fun c => z (Or.inr (Or.inl c))) (fun c => z (Or.inr (Or.inr c)))) (mMv_o f0 (by omega) p0 (by omega) q0 (by omega)).c
theorem gS_un {T : Int} {S : zS} (h : gS T S) : gS T (oUnS S) := by
  unfold oUnS
  split
  · exact h
  · rename_i q
    have hu := h.2.1
    obtain ⟨g1, g2⟩ := h.2.2 (S.2.2 - 1) (by omega) (by omega)
    refine ⟨g1, ⟨by show 0 ≤ S.2.2 - 1; omega, by show S.2.2 - 1 ≤ 10; omega⟩, fun k k0 k1 => ?_⟩
    have k2 : k < S.2.2 - 1 := k1
    obtain ⟨g3, g4⟩ := h.2.2 k k0 (by omega)
    exact ⟨g3, g2.sy.tr g4⟩
theorem cHr_rg {H : Int → Int → Int} {u nx : Int} {lo hi : Nat} {σ2 : zMem} (hj : ∀ i j, B i = B j → i = j) (f : zFr (zRg lo hi B) σ σ2) (h : hi ≤ 600 ∨ 2000 ≤ lo) (hr : cHr H u nx σ B) : cHr H u nx σ2 B := by
  obtain ⟨r1, r2, r3, r4⟩ := hr
  have e : zia σ2 (B 600) = zia σ (B 600) := f.rg hj (by omega)
  refine ⟨by rw [e]; exact r1, by rw [e]; exact r2, r3, fun k k0 k1 => cRs_congr (fun i hi2 => f.rg hj ?_) (r4 k k0 k1)⟩
  have := slb_r (i := (nx + 10 - u + k) % 10) (by omega) (by omega)
  omega
theorem zsi_N {h h' : Nat} {i j v x : Int} (hne : h' ≠ h) (e : zia σ h' j = x) : zia (zsi σ h i v) h' j = x := by rw [zia_si, if_neg (fun q => hne q.1)]; exact e
theorem cR_hold {x v : Int} (hB : cM σ B) (hV : mV N) (h : cR N σ B) (x0 : 0 ≤ x) (x1 : x < N 0) : cR (mSet N (6 + 2 * x + 1) v) (zsi σ (B 203) x v) B := by
  have hn := hV.n
  have ne : ∀ {i j : Nat}, i ≠ j → B i ≠ B j := fun h e => h (hB.inj _ _ e)
  have o : oE N (mSet N (6 + 2 * x + 1) v) := mSet_oE (Or.inr (Or.inl ⟨x, x0, by omega, rfl⟩))
  have m : ∀ {i : Int}, i ≠ 6 + 2 * x + 1 → mSet N (6 + 2 * x + 1) v i = N i := fun h => mSet_o h
  have s := h.s
  refine cR_oE hV o h (cRs_gen hV s ⟨?_, ?_, ?_⟩ ⟨m (by omega), m (by omega), m (by omega), m (by omega)⟩ (fun t t0 t1 => ?_) (fun t t0 t1 => ?_) (fun f p f0 f1 p0 p1 => ?_) (fun k k0 k1 => zsi_at (ne (by omega)) rfl) (fun t k t0 t1 k0 k1 => m (by omega)) (fun j hj => m (by omega))) (fun k hk => zsi_at (ne (by omega)) rfl) (zsi_at (ne (by omega)) rfl)
  · exact (zsi_N (ne (by omega)) s.1.1).trans (m (by omega)).symm
  · exact (zsi_N (ne (by omega)) s.1.2.1).trans (m (by omega)).symm
  · exact (zsi_N (ne (by omega)) s.1.2.2).trans (m (by omega)).symm
  · show zia (zsi σ (B 203) x v) (B 203) t = mSet N (6 + 2 * x + 1) v (6 + 2 * t + 1)
    rw [zia_si]
    by_cases z : t = x
    · rw [if_pos ⟨rfl, z⟩, z, mSet_at]
    · rw [if_neg (fun q => z q.2), m (by omega)]; exact (s.2.1 t t0 t1).1
  · exact (zsi_N (ne (by omega)) (s.2.2.1 t t0 t1).1).trans (m (by omega)).symm
  · exact (zsi_N (ne (by omega)) ((s.2.2.2.1 f f0 f1).2.2.2 p p0 p1)).trans (m (by omega)).symm
theorem cR_rent {x v : Int} (hB : cM σ B) (hV : mV N) (h : cR N σ B) (x0 : 0 ≤ x) (x1 : x < N 1) : cR (mSet N (14 + 8 * x + 3) v) (zsi σ (B 204) x v) B := by
  have hn := hV.n
  have ne : ∀ {i j : Nat}, i ≠ j → B i ≠ B j := fun h e => h (hB.inj _ _ e)
  have o : oE N (mSet N (14 + 8 * x + 3) v) := mSet_oE (Or.inr (Or.inr ⟨x, x0, by omega, rfl⟩))
  have m : ∀ {i : Int}, i ≠ 14 + 8 * x + 3 → mSet N (14 + 8 * x + 3) v i = N i := fun h => mSet_o h
  have s := h.s
  refine cR_oE hV o h (cRs_gen hV s ⟨?_, ?_, ?_⟩ ⟨m (by omega), m (by omega), m (by omega), m (by omega)⟩ (fun t t0 t1 => ?_) (fun t t0 t1 => ?_) (fun f p f0 f1 p0 p1 => ?_) (fun k k0 k1 => zsi_at (ne (by omega)) rfl) (fun t k t0 t1 k0 k1 => m (by omega)) (fun j hj => m (by omega))) (fun k hk => zsi_at (ne (by omega)) rfl) (zsi_at (ne (by omega)) rfl)
  · exact (zsi_N (ne (by omega)) s.1.1).trans (m (by omega)).symm
  · exact (zsi_N (ne (by omega)) s.1.2.1).trans (m (by omega)).symm
  · exact (zsi_N (ne (by omega)) s.1.2.2).trans (m (by omega)).symm
  · exact (zsi_N (ne (by omega)) (s.2.1 t t0 t1).1).trans (m (by omega)).symm
  · show zia (zsi σ (B 204) x v) (B 204) t = mSet N (14 + 8 * x + 3) v (14 + 8 * t + 3)
    rw [zia_si]
    by_cases z : t = x
    · rw [if_pos ⟨rfl, z⟩, z, mSet_at]
    · rw [if_neg (fun q => z q.2), m (by omega)]; exact (s.2.2.1 t t0 t1).1
  · exact (zsi_N (ne (by omega)) ((s.2.2.2.1 f f0 f1).2.2.2 p p0 p1)).trans (m (by omega)).symm
theorem cR_fee {v : Int} (hB : cM σ B) (hV : mV N) (h : cR N σ B) : cR (mSet N 4 v) (zsi σ (B 200) ((2 : Nat) : Int) v) B := by
  have hn := hV.n
  have ne : ∀ {i j : Nat}, i ≠ j → B i ≠ B j := fun h e => h (hB.inj _ _ e)
  have o : oE N (mSet N 4 v) := mSet_oE (Or.inl rfl)
  have m : ∀ {i : Int}, i ≠ 4 → mSet N 4 v i = N i := fun h => mSet_o h
  have s := h.s
  refine cR_oE hV o h (cRs_gen hV s ⟨?_, ?_, ?_⟩ ⟨m (by omega), m (by omega), m (by omega), m (by omega)⟩ (fun t t0 t1 => ?_) (fun t t0 t1 => ?_) (fun f p f0 f1 p0 p1 => ?_) (fun k k0 k1 => zsi_at (ne (by omega)) rfl) (fun t k t0 t1 k0 k1 => m (by omega)) (fun j hj => m (by omega))) (fun k hk => zsi_at (ne (by omega)) rfl) (zsi_at (ne (by omega)) rfl)
  · exact (zsi_F (by decide) s.1.1).trans (m (by omega)).symm
  · exact (zsi_F (by decide) s.1.2.1).trans (m (by omega)).symm
  · rw [zsi_same, mSet_at]
  · exact (zsi_N (ne (by omega)) (s.2.1 t t0 t1).1).trans (m (by omega)).symm
  · exact (zsi_N (ne (by omega)) (s.2.2.1 t t0 t1).1).trans (m (by omega)).symm
  · exact (zsi_N (ne (by omega)) ((s.2.2.2.1 f f0 f1).2.2.2 p p0 p1)).trans (m (by omega)).symm
theorem cR_mv {f p q : Int} (hB : cM σ B) (hV : mV N) (h : cR N σ B) (f0 : 0 ≤ f) (f1 : f < N 2) (p0 : -1 ≤ p) (p1 : p < N 0) (q0 : -1 ≤ q) (q1 : q < N 0) (pq : p ≠ q) {a b v : Int} (ea : a = mP N f p - 1) (eb : b = mP N f q + 1) (ev : v = N 5 + 1) : cR (mMv N f p q) (zsi (zsi (zsi σ (B 205) (f * 5 + p + 1) a) (B 205) (f * 5 + q + 1) b) (B 200) ((1 : Nat) : Int) v) B := by
  have hn := hV.n
  have ne : ∀ {i j : Nat}, i ≠ j → B i ≠ B j := fun h e => h (hB.inj _ _ e)
  have o := mMv_o (N := N) (f := f) (p := p) (q := q) f0 (by omega) p0 (by omega) q0 (by omega)
  have m : ∀ {i : Int}, i ≠ 5 → ¬ (154 ≤ i ∧ i < 184) → mMv N f p q i = N i := fun h5 hp => by unfold mMv; rw [mSet_o h5, mSet_o (by omega), mSet_o (by omega)]
  have s := h.s
  have z3 : ∀ {k : Nat}, k ≠ 200 → k ≠ 205 → zia (zsi (zsi (zsi σ (B 205) (f * 5 + p + 1) a) (B 205) (f * 5 + q + 1) b) (B 200) ((1 : Nat) : Int) v) (B k) = zia σ (B k) := fun h1 h2 => zsi_at (ne h1) (zsi_at (ne h2) (zsi_at (ne h2) rfl))
  refine cR_oE hV o h (cRs_gen hV s ⟨?_, ?_, ?_⟩ ⟨m (by omega) (by omega), m (by omega) (by omega), m (by omega) (by omega), m (by omega) (by omega)⟩ (fun t t0 t1 => ?_) (fun t t0 t1 => ?_) (fun f2 p2 g0 g1 r0 r1 => ?_) (fun k k0 k1 => z3 (by omega) (by omega)) (fun t k t0 t1 k0 k1 => m (by omega) (by omega)) (fun j hj => m (by omega) (by omega))) (fun k hk => z3 (by omega) (by omega)) (z3 (by omega) (by omega))
  · exact (zsi_F (by decide) (zsi_N (ne (by omega)) (zsi_N (ne (by omega)) s.1.1))).trans (m (by omega) (by omega)).symm
  · rw [zsi_same, ev]; unfold mMv; rw [mSet_at]
  · exact (zsi_F (by decide) (zsi_N (ne (by omega)) (zsi_N (ne (by omega)) s.1.2.2))).trans (m (by omega) (by omega)).symm
  · show zia _ (B 203) t = _
    rw [z3 (by omega) (by omega)]
    exact (s.2.1 t t0 t1).1.trans (m (by omega) (by omega)).symm
  · show zia _ (B 204) t = _
    rw [z3 (by omega) (by omega)]
    exact (s.2.2.1 t t0 t1).1.trans (m (by omega) (by omega)).symm
  · rw [mMv_p f0 p0 (by omega) q0 (by omega) pq g0 r0 (by omega)]
    show zia _ (B 205) (f2 * 5 + p2 + 1) = _
    rw [zia_si, if_neg (fun z => ne (by decide) z.1), zia_si]
    by_cases c : f2 = f ∧ p2 = q
    · rw [if_pos ⟨rfl, by omega⟩, if_pos c, eb]
    · rw [if_neg (fun z => c (by omega)), if_neg c, zia_si]
      by_cases c2 : f2 = f ∧ p2 = p
      · rw [if_pos ⟨rfl, by omega⟩, if_pos c2, ea]
      · rw [if_neg (fun z => c2 (by omega)), if_neg c2]
        exact (s.2.2.2.1 f2 g0 g1).2.2.2 p2 r0 r1
theorem zt_X10_hasPrintsFor {s a b c : Int} (hB : cM σ B) (hR : cR N σ B) (hV : mV N) (hW : mW N) (hX : mX N) (hQ : mQ N) (hk : bkOK N s a b c) (a0 : 0 ≤ a) : zP1 G mX10_hasPrintsFor (d + 2) [zR (B 300), zI s, zI a, zI b, zI c] σ (zb (mEn N s a b c)) := by
  refine zE_of rfl (by simp [zcat]) (Nat.le_of_ble_eq_true rfl) ?_
  show zF G mX10_hasPrintsFor (d + 2) 0 [(0, zR (B 300)), (1, zI s), (2, zI a), (3, zI b), (4, zI c)] [] σ _
  have hb := hV.b
  have hn := hV.n
  obtain ⟨⟨s0, s1⟩, ha, hbc⟩ := id hk
  have hs := hV.s s s0 (by omega)
  have hw := hW s s0 s1
  refine zF_aload_n 1 dX10_hasPrintsFor_0 rfl rfl ?_
  refine zF_getR 4 dX10_hasPrintsFor_1 rfl gX10_18 hB.wk.1 hB.wk.2.1 hB.wk.2.2.1 ?_
  refine zF_getR 7 dX10_hasPrintsFor_4 rfl gX10_64 hB.ch.1 hB.ch.2.1 (cB_104 hB).1 ?_
  refine zF_iload_n 8 dX10_hasPrintsFor_7 rfl rfl ?_
  refine zF_iaload 9 dX10_hasPrintsFor_8 rfl (cB_104 hB).2.2 (cB_104 hB).2.1 (by omega) (by omega) (hR.c.2.2.1 _ (by omega) (by omega)).1 ?_
  refine zF_istore 11 (ls' := [(5, zI (mS N s 0)), (0, zR (B 300)), (1, zI s), (2, zI a), (3, zI b), (4, zI c)]) dX10_hasPrintsFor_9 rfl (by decide) rfl ?_
  refine zF_iconst 12 dX10_hasPrintsFor_11 rfl ?_
  refine zF_istore 14 (ls' := [(6, zI 0), (5, zI (mS N s 0)), (0, zR (B 300)), (1, zI s), (2, zI a), (3, zI b), (4, zI c)]) dX10_hasPrintsFor_12 rfl (by decide) rfl ?_
  refine zF_locs (ls' := [(6, zI ((0 : Nat) : Int)), (5, zI (mS N s 0)), (0, zR (B 300)), (1, zI s), (2, zI a), (3, zI b), (4, zI c)]) ⟨zlI rfl (by first | rfl | omega | (push_cast; omega) | exact congrArg (_ + ·) (zbT (by assumption)) | exact congrArg (_ + ·) (zbF (by assumption)) | exact congrArg (_ + ·) (zbT (by omega)) | exact congrArg (_ + ·) (zbF (by omega)) | exact congrArg (_ + ·) (if_pos (by omega)).symm | exact congrArg (_ + ·) (if_neg (by omega)).symm | exact (if_pos (by omega)).symm | exact (if_neg (by omega)).symm | exact zsub_s (if_pos (by omega)).symm | exact zsub_s0 (if_neg (by omega)).symm | exact zadd0 (if_neg (by omega)).symm | exact zadd0 (zbF (by omega)) | exact (Int.sub_zero _).symm), rfl, rfl, rfl, rfl, rfl, rfl, trivial⟩ ?_
  refine zF_while (X := Nat) (fun x => 7 - x) (fun x σ2 => x ≤ 7 ∧ σ2 = σ ∧ ∀ i : Nat, i < x → okD N s a b c i) (fun x => [(6, zI ((x : Nat) : Int)), (5, zI (mS N s 0)), (0, zR (B 300)), (1, zI s), (2, zI a), (3, zI b), (4, zI c)]) ?_ 0 σ (⟨by omega, rfl, fun i hi => absurd hi (by omega)⟩)
  intro sx σ2 hI14 ih14
  show zF G mX10_hasPrintsFor (d + 2) 14 [(6, zI ((sx : Nat) : Int)), (5, zI (mS N s 0)), (0, zR (B 300)), (1, zI s), (2, zI a), (3, zI b), (4, zI c)] [] σ2 _
  obtain ⟨hx, e2, hno⟩ := hI14
  subst e2
  have qs := mSh_b hV s0 (by omega) (sx : Int)
  refine zF_iload 16 dX10_hasPrintsFor_14 rfl rfl ?_
  refine zF_bipush 18 dX10_hasPrintsFor_16 rfl (by decide) ?_
  refine zF_icmp_ge 94 21 dX10_hasPrintsFor_18 rfl rfl (by first | decide | assumption | exact hb _ | exact mSh_rg hb _ _ | exact zb_rg _ | (constructor <;> omega)) (by first | decide | assumption | exact hb _ | exact mSh_rg hb _ _ | exact zb_rg _ | (constructor <;> omega)) (fun c1 => ?_) (fun c1 => ?_)
  · refine zF_iconst 95 dX10_hasPrintsFor_94 rfl ?_
    exact zF_zretP dX10_hasPrintsFor_95 rfl (by decide) (zbT ((mEn_iff hV hW hQ hk a0).mpr fun i hi => hno i (by omega)))
  · refine zF_iload 23 dX10_hasPrintsFor_21 rfl rfl ?_
    refine zF_if_eq 33 26 dX10_hasPrintsFor_23 rfl rfl (by first | decide | assumption | exact hb _ | exact mSh_rg hb _ _ | exact zb_rg _ | (constructor <;> omega)) (fun c2 => ?_) (fun c2 => ?_)
    · refine zF_iload_n 34 dX10_hasPrintsFor_33 rfl rfl ?_
      refine zF_goto 38 dX10_hasPrintsFor_34 rfl ?_
      refine zF_istore 40 (ls' := [(7, zI a), (6, zI ((sx : Nat) : Int)), (5, zI (mS N s 0)), (0, zR (B 300)), (1, zI s), (2, zI a), (3, zI b), (4, zI c)]) dX10_hasPrintsFor_38 rfl (by decide) rfl ?_
      refine zF_aload_n 41 dX10_hasPrintsFor_40 rfl rfl ?_
      refine zF_iload 43 dX10_hasPrintsFor_41 rfl rfl ?_
      refine zF_iload 45 dX10_hasPrintsFor_43 rfl rfl ?_
      refine zF_iload 47 dX10_hasPrintsFor_45 rfl rfl ?_
      refine zF_callVi 50 (d2 := (d + 1)) (as := [zI (mS N s 0), zI a, zI ((sx : Nat) : Int)]) dX10_hasPrintsFor_47 rfl kX10_118 iX10_screensShowing (ci := 10) rfl eX10_screensShowing (Nat.le_refl _) hB.wk.1 hB.wk.2.1 rfl rfl (Nat.le_of_ble_eq_true rfl) (zt_X10_screensShowing hB hR hV hX (by first | decide | assumption | exact hb _ | exact mSh_rg hb _ _ | exact zb_rg _ | (constructor <;> omega)) (by first | decide | assumption | exact hb _ | exact mSh_rg hb _ _ | exact zb_rg _ | (constructor <;> omega)) (by first | decide | assumption | exact hb _ | exact mSh_rg hb _ _ | exact zb_rg _ | (constructor <;> omega))) ?_
      refine zF_istore 52 (ls' := [(8, zI (mCnt N (mS N s 0) a ((sx : Nat) : Int))), (7, zI a), (6, zI ((sx : Nat) : Int)), (5, zI (mS N s 0)), (0, zR (B 300)), (1, zI s), (2, zI a), (3, zI b), (4, zI c)]) dX10_hasPrintsFor_50 rfl (by decide) rfl ?_
      refine zF_aload_n 53 dX10_hasPrintsFor_52 rfl rfl ?_
      refine zF_getR 56 dX10_hasPrintsFor_53 rfl gX10_22 hB.wk.1 hB.wk.2.1 hB.wk.2.2.2.1 ?_
      refine zF_iload_n 57 dX10_hasPrintsFor_56 rfl rfl ?_
      refine zF_iload 59 dX10_hasPrintsFor_57 rfl rfl ?_
      refine zF_callVi 62 (d2 := (d + 1)) (as := [zI s, zI ((sx : Nat) : Int)]) dX10_hasPrintsFor_59 rfl kX10_32 iX8_filmOn (ci := 8) rfl eX8_filmOn (Nat.le_refl _) hB.st.1 hB.st.2.1 rfl rfl (Nat.le_of_ble_eq_true rfl) (zt_X8_filmOn hB hR hV hX (by omega) (by omega) (by first | decide | assumption | exact hb _ | exact mSh_rg hb _ _ | exact zb_rg _ | (constructor <;> omega))) ?_
      refine zF_iload 64 dX10_hasPrintsFor_62 rfl rfl ?_
      refine zF_icmp_eq 70 67 dX10_hasPrintsFor_64 rfl rfl (by first | decide | assumption | exact hb _ | exact mSh_rg hb _ _ | exact zb_rg _ | (constructor <;> omega)) (by first | decide | assumption | exact hb _ | exact mSh_rg hb _ _ | exact zb_rg _ | (constructor <;> omega)) (fun c3 => ?_) (fun c3 => ?_)
      · have qn := mCnt_b hV (mS N s 0) a (sx : Int)
        have qp := hV.p a (mS N s 0) (by omega) (by omega) (by omega) (by omega)
        refine zF_iload 72 dX10_hasPrintsFor_70 rfl rfl ?_
        refine zF_aload_n 73 dX10_hasPrintsFor_72 rfl rfl ?_
        refine zF_getR 76 dX10_hasPrintsFor_73 rfl gX10_22 hB.wk.1 hB.wk.2.1 hB.wk.2.2.2.1 ?_
        refine zF_iload 78 dX10_hasPrintsFor_76 rfl rfl ?_
        refine zF_iload 80 dX10_hasPrintsFor_78 rfl rfl ?_
        refine zF_callVi 83 (d2 := (d + 1)) (as := [zI a, zI (mS N s 0)]) dX10_hasPrintsFor_80 rfl kX10_121 iX8_printsAt (ci := 8) rfl eX8_printsAt (Nat.le_refl _) hB.st.1 hB.st.2.1 rfl rfl (Nat.le_of_ble_eq_true rfl) (zt_X8_printsAt hB hR hV (by omega) (by omega) (by omega) (by omega)) ?_
        refine zF_icmp_le 88 86 dX10_hasPrintsFor_83 rfl rfl (by first | decide | assumption | exact hb _ | exact mSh_rg hb _ _ | exact zb_rg _ | (constructor <;> omega)) (by first | decide | assumption | exact hb _ | exact mSh_rg hb _ _ | exact zb_rg _ | (constructor <;> omega)) (fun c4 => ?_) (fun c4 => ?_)
        · refine zF_iinc 91 (ls' := [(6, zI (((sx : Nat) : Int) + 1)), (8, zI (mCnt N (mS N s 0) a ((sx : Nat) : Int))), (7, zI a), (5, zI (mS N s 0)), (0, zR (B 300)), (1, zI s), (2, zI a), (3, zI b), (4, zI c)]) dX10_hasPrintsFor_88 rfl rfl rfl (by decide) rfl ?_
          refine zF_goto 14 dX10_hasPrintsFor_91 rfl ?_
          exact zF_locs (ls' := [(6, zI (((sx + 1) : Nat) : Int)), (5, zI (mS N s 0)), (0, zR (B 300)), (1, zI s), (2, zI a), (3, zI b), (4, zI c)]) ⟨zlI rfl (by first | rfl | omega | (push_cast; omega) | exact congrArg (_ + ·) (zbT (by assumption)) | exact congrArg (_ + ·) (zbF (by assumption)) | exact congrArg (_ + ·) (zbT (by omega)) | exact congrArg (_ + ·) (zbF (by omega)) | exact congrArg (_ + ·) (if_pos (by omega)).symm | exact congrArg (_ + ·) (if_neg (by omega)).symm | exact (if_pos (by omega)).symm | exact (if_neg (by omega)).symm | exact zsub_s (if_pos (by omega)).symm | exact zsub_s0 (if_neg (by omega)).symm | exact zadd0 (if_neg (by omega)).symm | exact zadd0 (zbF (by omega)) | exact (Int.sub_zero _).symm), rfl, rfl, rfl, rfl, rfl, rfl, trivial⟩ (ih14 (sx + 1) _ (by omega) (⟨by omega, rfl, fun i hi => by
          by_cases e : i = sx
          · subst e
            unfold okD
            rw [show mFd a b c (i : Int) = a from if_pos (by omega), if_pos (by omega)]
            omega
          · exact hno i (by omega)⟩))
        · refine zF_iconst 87 dX10_hasPrintsFor_86 rfl ?_
          exact zF_zretP dX10_hasPrintsFor_87 rfl (by decide) (zbF (fun q => by have := (mEn_iff hV hW hQ hk a0).mp q sx (by omega); unfold okD at this; rw [show mFd a b c (sx : Int) = a from if_pos (by omega), if_pos (by omega)] at this; omega))
      · refine zF_iinc 70 (ls' := [(8, zI ((mCnt N (mS N s 0) a ((sx : Nat) : Int)) + 1)), (7, zI a), (6, zI ((sx : Nat) : Int)), (5, zI (mS N s 0)), (0, zR (B 300)), (1, zI s), (2, zI a), (3, zI b), (4, zI c)]) dX10_hasPrintsFor_67 rfl rfl rfl (by decide) rfl ?_
        have qn := mCnt_b hV (mS N s 0) a (sx : Int)
        have qp := hV.p a (mS N s 0) (by omega) (by omega) (by omega) (by omega)
        refine zF_iload 72 dX10_hasPrintsFor_70 rfl rfl ?_
        refine zF_aload_n 73 dX10_hasPrintsFor_72 rfl rfl ?_
        refine zF_getR 76 dX10_hasPrintsFor_73 rfl gX10_22 hB.wk.1 hB.wk.2.1 hB.wk.2.2.2.1 ?_
        refine zF_iload 78 dX10_hasPrintsFor_76 rfl rfl ?_
        refine zF_iload 80 dX10_hasPrintsFor_78 rfl rfl ?_
        refine zF_callVi 83 (d2 := (d + 1)) (as := [zI a, zI (mS N s 0)]) dX10_hasPrintsFor_80 rfl kX10_121 iX8_printsAt (ci := 8) rfl eX8_printsAt (Nat.le_refl _) hB.st.1 hB.st.2.1 rfl rfl (Nat.le_of_ble_eq_true rfl) (zt_X8_printsAt hB hR hV (by omega) (by omega) (by omega) (by omega)) ?_
        refine zF_icmp_le 88 86 dX10_hasPrintsFor_83 rfl rfl (by first | decide | assumption | exact hb _ | exact mSh_rg hb _ _ | exact zb_rg _ | (constructor <;> omega)) (by first | decide | assumption | exact hb _ | exact mSh_rg hb _ _ | exact zb_rg _ | (constructor <;> omega)) (fun c5 => ?_) (fun c5 => ?_)
        · refine zF_iinc 91 (ls' := [(6, zI (((sx : Nat) : Int) + 1)), (8, zI ((mCnt N (mS N s 0) a ((sx : Nat) : Int)) + 1)), (7, zI a), (5, zI (mS N s 0)), (0, zR (B 300)), (1, zI s), (2, zI a), (3, zI b), (4, zI c)]) dX10_hasPrintsFor_88 rfl rfl rfl (by decide) rfl ?_
          refine zF_goto 14 dX10_hasPrintsFor_91 rfl ?_
          exact zF_locs (ls' := [(6, zI (((sx + 1) : Nat) : Int)), (5, zI (mS N s 0)), (0, zR (B 300)), (1, zI s), (2, zI a), (3, zI b), (4, zI c)]) ⟨zlI rfl (by first | rfl | omega | (push_cast; omega) | exact congrArg (_ + ·) (zbT (by assumption)) | exact congrArg (_ + ·) (zbF (by assumption)) | exact congrArg (_ + ·) (zbT (by omega)) | exact congrArg (_ + ·) (zbF (by omega)) | exact congrArg (_ + ·) (if_pos (by omega)).symm | exact congrArg (_ + ·) (if_neg (by omega)).symm | exact (if_pos (by omega)).symm | exact (if_neg (by omega)).symm | exact zsub_s (if_pos (by omega)).symm | exact zsub_s0 (if_neg (by omega)).symm | exact zadd0 (if_neg (by omega)).symm | exact zadd0 (zbF (by omega)) | exact (Int.sub_zero _).symm), rfl, rfl, rfl, rfl, rfl, rfl, trivial⟩ (ih14 (sx + 1) _ (by omega) (⟨by omega, rfl, fun i hi => by
          by_cases e : i = sx
          · subst e
            unfold okD
            rw [show mFd a b c (i : Int) = a from if_pos (by omega), if_neg (by omega)]
            omega
          · exact hno i (by omega)⟩))
        · refine zF_iconst 87 dX10_hasPrintsFor_86 rfl ?_
          exact zF_zretP dX10_hasPrintsFor_87 rfl (by decide) (zbF (fun q => by have := (mEn_iff hV hW hQ hk a0).mp q sx (by omega); unfold okD at this; rw [show mFd a b c (sx : Int) = a from if_pos (by omega), if_neg (by omega)] at this; omega))
    · refine zF_iload 28 dX10_hasPrintsFor_26 rfl rfl ?_
      refine zF_iload 30 dX10_hasPrintsFor_28 rfl rfl ?_
      refine zF_icmp_ge 37 33 dX10_hasPrintsFor_30 rfl rfl (by first | decide | assumption | exact hb _ | exact mSh_rg hb _ _ | exact zb_rg _ | (constructor <;> omega)) (by first | decide | assumption | exact hb _ | exact mSh_rg hb _ _ | exact zb_rg _ | (constructor <;> omega)) (fun c6 => ?_) (fun c6 => ?_)
      · refine zF_iload_n 38 dX10_hasPrintsFor_37 rfl rfl ?_
        refine zF_istore 40 (ls' := [(7, zI b), (6, zI ((sx : Nat) : Int)), (5, zI (mS N s 0)), (0, zR (B 300)), (1, zI s), (2, zI a), (3, zI b), (4, zI c)]) dX10_hasPrintsFor_38 rfl (by decide) rfl ?_
        refine zF_aload_n 41 dX10_hasPrintsFor_40 rfl rfl ?_
        refine zF_iload 43 dX10_hasPrintsFor_41 rfl rfl ?_
        refine zF_iload 45 dX10_hasPrintsFor_43 rfl rfl ?_
        refine zF_iload 47 dX10_hasPrintsFor_45 rfl rfl ?_
        refine zF_callVi 50 (d2 := (d + 1)) (as := [zI (mS N s 0), zI b, zI ((sx : Nat) : Int)]) dX10_hasPrintsFor_47 rfl kX10_118 iX10_screensShowing (ci := 10) rfl eX10_screensShowing (Nat.le_refl _) hB.wk.1 hB.wk.2.1 rfl rfl (Nat.le_of_ble_eq_true rfl) (zt_X10_screensShowing hB hR hV hX (by first | decide | assumption | exact hb _ | exact mSh_rg hb _ _ | exact zb_rg _ | (constructor <;> omega)) (by first | decide | assumption | exact hb _ | exact mSh_rg hb _ _ | exact zb_rg _ | (constructor <;> omega)) (by first | decide | assumption | exact hb _ | exact mSh_rg hb _ _ | exact zb_rg _ | (constructor <;> omega))) ?_
        refine zF_istore 52 (ls' := [(8, zI (mCnt N (mS N s 0) b ((sx : Nat) : Int))), (7, zI b), (6, zI ((sx : Nat) : Int)), (5, zI (mS N s 0)), (0, zR (B 300)), (1, zI s), (2, zI a), (3, zI b), (4, zI c)]) dX10_hasPrintsFor_50 rfl (by decide) rfl ?_
        refine zF_aload_n 53 dX10_hasPrintsFor_52 rfl rfl ?_
        refine zF_getR 56 dX10_hasPrintsFor_53 rfl gX10_22 hB.wk.1 hB.wk.2.1 hB.wk.2.2.2.1 ?_
        refine zF_iload_n 57 dX10_hasPrintsFor_56 rfl rfl ?_
        refine zF_iload 59 dX10_hasPrintsFor_57 rfl rfl ?_
        refine zF_callVi 62 (d2 := (d + 1)) (as := [zI s, zI ((sx : Nat) : Int)]) dX10_hasPrintsFor_59 rfl kX10_32 iX8_filmOn (ci := 8) rfl eX8_filmOn (Nat.le_refl _) hB.st.1 hB.st.2.1 rfl rfl (Nat.le_of_ble_eq_true rfl) (zt_X8_filmOn hB hR hV hX (by omega) (by omega) (by first | decide | assumption | exact hb _ | exact mSh_rg hb _ _ | exact zb_rg _ | (constructor <;> omega))) ?_
        refine zF_iload 64 dX10_hasPrintsFor_62 rfl rfl ?_
        refine zF_icmp_eq 70 67 dX10_hasPrintsFor_64 rfl rfl (by first | decide | assumption | exact hb _ | exact mSh_rg hb _ _ | exact zb_rg _ | (constructor <;> omega)) (by first | decide | assumption | exact hb _ | exact mSh_rg hb _ _ | exact zb_rg _ | (constructor <;> omega)) (fun c7 => ?_) (fun c7 => ?_)
        · have qn := mCnt_b hV (mS N s 0) b (sx : Int)
          have qp := hV.p b (mS N s 0) (by omega) (by omega) (by omega) (by omega)
          refine zF_iload 72 dX10_hasPrintsFor_70 rfl rfl ?_
          refine zF_aload_n 73 dX10_hasPrintsFor_72 rfl rfl ?_
          refine zF_getR 76 dX10_hasPrintsFor_73 rfl gX10_22 hB.wk.1 hB.wk.2.1 hB.wk.2.2.2.1 ?_
          refine zF_iload 78 dX10_hasPrintsFor_76 rfl rfl ?_
          refine zF_iload 80 dX10_hasPrintsFor_78 rfl rfl ?_
          refine zF_callVi 83 (d2 := (d + 1)) (as := [zI b, zI (mS N s 0)]) dX10_hasPrintsFor_80 rfl kX10_121 iX8_printsAt (ci := 8) rfl eX8_printsAt (Nat.le_refl _) hB.st.1 hB.st.2.1 rfl rfl (Nat.le_of_ble_eq_true rfl) (zt_X8_printsAt hB hR hV (by omega) (by omega) (by omega) (by omega)) ?_
          refine zF_icmp_le 88 86 dX10_hasPrintsFor_83 rfl rfl (by first | decide | assumption | exact hb _ | exact mSh_rg hb _ _ | exact zb_rg _ | (constructor <;> omega)) (by first | decide | assumption | exact hb _ | exact mSh_rg hb _ _ | exact zb_rg _ | (constructor <;> omega)) (fun c8 => ?_) (fun c8 => ?_)
          · refine zF_iinc 91 (ls' := [(6, zI (((sx : Nat) : Int) + 1)), (8, zI (mCnt N (mS N s 0) b ((sx : Nat) : Int))), (7, zI b), (5, zI (mS N s 0)), (0, zR (B 300)), (1, zI s), (2, zI a), (3, zI b), (4, zI c)]) dX10_hasPrintsFor_88 rfl rfl rfl (by decide) rfl ?_
            refine zF_goto 14 dX10_hasPrintsFor_91 rfl ?_
            exact zF_locs (ls' := [(6, zI (((sx + 1) : Nat) : Int)), (5, zI (mS N s 0)), (0, zR (B 300)), (1, zI s), (2, zI a), (3, zI b), (4, zI c)]) ⟨zlI rfl (by first | rfl | omega | (push_cast; omega) | exact congrArg (_ + ·) (zbT (by assumption)) | exact congrArg (_ + ·) (zbF (by assumption)) | exact congrArg (_ + ·) (zbT (by omega)) | exact congrArg (_ + ·) (zbF (by omega)) | exact congrArg (_ + ·) (if_pos (by omega)).symm | exact congrArg (_ + ·) (if_neg (by omega)).symm | exact (if_pos (by omega)).symm | exact (if_neg (by omega)).symm | exact zsub_s (if_pos (by omega)).symm | exact zsub_s0 (if_neg (by omega)).symm | exact zadd0 (if_neg (by omega)).symm | exact zadd0 (zbF (by omega)) | exact (Int.sub_zero _).symm), rfl, rfl, rfl, rfl, rfl, rfl, trivial⟩ (ih14 (sx + 1) _ (by omega) (⟨by omega, rfl, fun i hi => by
          by_cases e : i = sx
          · subst e
            unfold okD
            rw [show mFd a b c (i : Int) = b from if_neg (by omega), if_pos (by omega)]
            omega
          · exact hno i (by omega)⟩))
          · refine zF_iconst 87 dX10_hasPrintsFor_86 rfl ?_
            exact zF_zretP dX10_hasPrintsFor_87 rfl (by decide) (zbF (fun q => by have := (mEn_iff hV hW hQ hk a0).mp q sx (by omega); unfold okD at this; rw [show mFd a b c (sx : Int) = b from if_neg (by omega), if_pos (by omega)] at this; omega))
        · refine zF_iinc 70 (ls' := [(8, zI ((mCnt N (mS N s 0) b ((sx : Nat) : Int)) + 1)), (7, zI b), (6, zI ((sx : Nat) : Int)), (5, zI (mS N s 0)), (0, zR (B 300)), (1, zI s), (2, zI a), (3, zI b), (4, zI c)]) dX10_hasPrintsFor_67 rfl rfl rfl (by decide) rfl ?_
          have qn := mCnt_b hV (mS N s 0) b (sx : Int)
          have qp := hV.p b (mS N s 0) (by omega) (by omega) (by omega) (by omega)
          refine zF_iload 72 dX10_hasPrintsFor_70 rfl rfl ?_
          refine zF_aload_n 73 dX10_hasPrintsFor_72 rfl rfl ?_
          refine zF_getR 76 dX10_hasPrintsFor_73 rfl gX10_22 hB.wk.1 hB.wk.2.1 hB.wk.2.2.2.1 ?_
          refine zF_iload 78 dX10_hasPrintsFor_76 rfl rfl ?_
          refine zF_iload 80 dX10_hasPrintsFor_78 rfl rfl ?_
          refine zF_callVi 83 (d2 := (d + 1)) (as := [zI b, zI (mS N s 0)]) dX10_hasPrintsFor_80 rfl kX10_121 iX8_printsAt (ci := 8) rfl eX8_printsAt (Nat.le_refl _) hB.st.1 hB.st.2.1 rfl rfl (Nat.le_of_ble_eq_true rfl) (zt_X8_printsAt hB hR hV (by omega) (by omega) (by omega) (by omega)) ?_
          refine zF_icmp_le 88 86 dX10_hasPrintsFor_83 rfl rfl (by first | decide | assumption | exact hb _ | exact mSh_rg hb _ _ | exact zb_rg _ | (constructor <;> omega)) (by first | decide | assumption | exact hb _ | exact mSh_rg hb _ _ | exact zb_rg _ | (constructor <;> omega)) (fun c9 => ?_) (fun c9 => ?_)
          · refine zF_iinc 91 (ls' := [(6, zI (((sx : Nat) : Int) + 1)), (8, zI ((mCnt N (mS N s 0) b ((sx : Nat) : Int)) + 1)), (7, zI b), (5, zI (mS N s 0)), (0, zR (B 300)), (1, zI s), (2, zI a), (3, zI b), (4, zI c)]) dX10_hasPrintsFor_88 rfl rfl rfl (by decide) rfl ?_
            refine zF_goto 14 dX10_hasPrintsFor_91 rfl ?_
            exact zF_locs (ls' := [(6, zI (((sx + 1) : Nat) : Int)), (5, zI (mS N s 0)), (0, zR (B 300)), (1, zI s), (2, zI a), (3, zI b), (4, zI c)]) ⟨zlI rfl (by first | rfl | omega | (push_cast; omega) | exact congrArg (_ + ·) (zbT (by assumption)) | exact congrArg (_ + ·) (zbF (by assumption)) | exact congrArg (_ + ·) (zbT (by omega)) | exact congrArg (_ + ·) (zbF (by omega)) | exact congrArg (_ + ·) (if_pos (by omega)).symm | exact congrArg (_ + ·) (if_neg (by omega)).symm | exact (if_pos (by omega)).symm | exact (if_neg (by omega)).symm | exact zsub_s (if_pos (by omega)).symm | exact zsub_s0 (if_neg (by omega)).symm | exact zadd0 (if_neg (by omega)).symm | exact zadd0 (zbF (by omega)) | exact (Int.sub_zero _).symm), rfl, rfl, rfl, rfl, rfl, rfl, trivial⟩ (ih14 (sx + 1) _ (by omega) (⟨by omega, rfl, fun i hi => by
          by_cases e : i = sx
          · subst e
            unfold okD
            rw [show mFd a b c (i : Int) = b from if_neg (by omega), if_neg (by omega)]
            omega
          · exact hno i (by omega)⟩))
          · refine zF_iconst 87 dX10_hasPrintsFor_86 rfl ?_
            exact zF_zretP dX10_hasPrintsFor_87 rfl (by decide) (zbF (fun q => by have := (mEn_iff hV hW hQ hk a0).mp q sx (by omega); unfold okD at this; rw [show mFd a b c (sx : Int) = b from if_neg (by omega), if_neg (by omega)] at this; omega))
      · refine zF_iload_n 34 dX10_hasPrintsFor_33 rfl rfl ?_
        refine zF_goto 38 dX10_hasPrintsFor_34 rfl ?_
        refine zF_istore 40 (ls' := [(7, zI a), (6, zI ((sx : Nat) : Int)), (5, zI (mS N s 0)), (0, zR (B 300)), (1, zI s), (2, zI a), (3, zI b), (4, zI c)]) dX10_hasPrintsFor_38 rfl (by decide) rfl ?_
        refine zF_aload_n 41 dX10_hasPrintsFor_40 rfl rfl ?_
        refine zF_iload 43 dX10_hasPrintsFor_41 rfl rfl ?_
        refine zF_iload 45 dX10_hasPrintsFor_43 rfl rfl ?_
        refine zF_iload 47 dX10_hasPrintsFor_45 rfl rfl ?_
        refine zF_callVi 50 (d2 := (d + 1)) (as := [zI (mS N s 0), zI a, zI ((sx : Nat) : Int)]) dX10_hasPrintsFor_47 rfl kX10_118 iX10_screensShowing (ci := 10) rfl eX10_screensShowing (Nat.le_refl _) hB.wk.1 hB.wk.2.1 rfl rfl (Nat.le_of_ble_eq_true rfl) (zt_X10_screensShowing hB hR hV hX (by first | decide | assumption | exact hb _ | exact mSh_rg hb _ _ | exact zb_rg _ | (constructor <;> omega)) (by first | decide | assumption | exact hb _ | exact mSh_rg hb _ _ | exact zb_rg _ | (constructor <;> omega)) (by first | decide | assumption | exact hb _ | exact mSh_rg hb _ _ | exact zb_rg _ | (constructor <;> omega))) ?_
        refine zF_istore 52 (ls' := [(8, zI (mCnt N (mS N s 0) a ((sx : Nat) : Int))), (7, zI a), (6, zI ((sx : Nat) : Int)), (5, zI (mS N s 0)), (0, zR (B 300)), (1, zI s), (2, zI a), (3, zI b), (4, zI c)]) dX10_hasPrintsFor_50 rfl (by decide) rfl ?_
        refine zF_aload_n 53 dX10_hasPrintsFor_52 rfl rfl ?_
        refine zF_getR 56 dX10_hasPrintsFor_53 rfl gX10_22 hB.wk.1 hB.wk.2.1 hB.wk.2.2.2.1 ?_
        refine zF_iload_n 57 dX10_hasPrintsFor_56 rfl rfl ?_
        refine zF_iload 59 dX10_hasPrintsFor_57 rfl rfl ?_
        refine zF_callVi 62 (d2 := (d + 1)) (as := [zI s, zI ((sx : Nat) : Int)]) dX10_hasPrintsFor_59 rfl kX10_32 iX8_filmOn (ci := 8) rfl eX8_filmOn (Nat.le_refl _) hB.st.1 hB.st.2.1 rfl rfl (Nat.le_of_ble_eq_true rfl) (zt_X8_filmOn hB hR hV hX (by omega) (by omega) (by first | decide | assumption | exact hb _ | exact mSh_rg hb _ _ | exact zb_rg _ | (constructor <;> omega))) ?_
        refine zF_iload 64 dX10_hasPrintsFor_62 rfl rfl ?_
        refine zF_icmp_eq 70 67 dX10_hasPrintsFor_64 rfl rfl (by first | decide | assumption | exact hb _ | exact mSh_rg hb _ _ | exact zb_rg _ | (constructor <;> omega)) (by first | decide | assumption | exact hb _ | exact mSh_rg hb _ _ | exact zb_rg _ | (constructor <;> omega)) (fun c10 => ?_) (fun c10 => ?_)
        · have qn := mCnt_b hV (mS N s 0) a (sx : Int)
          have qp := hV.p a (mS N s 0) (by omega) (by omega) (by omega) (by omega)
          refine zF_iload 72 dX10_hasPrintsFor_70 rfl rfl ?_
          refine zF_aload_n 73 dX10_hasPrintsFor_72 rfl rfl ?_
          refine zF_getR 76 dX10_hasPrintsFor_73 rfl gX10_22 hB.wk.1 hB.wk.2.1 hB.wk.2.2.2.1 ?_
          refine zF_iload 78 dX10_hasPrintsFor_76 rfl rfl ?_
          refine zF_iload 80 dX10_hasPrintsFor_78 rfl rfl ?_
          refine zF_callVi 83 (d2 := (d + 1)) (as := [zI a, zI (mS N s 0)]) dX10_hasPrintsFor_80 rfl kX10_121 iX8_printsAt (ci := 8) rfl eX8_printsAt (Nat.le_refl _) hB.st.1 hB.st.2.1 rfl rfl (Nat.le_of_ble_eq_true rfl) (zt_X8_printsAt hB hR hV (by omega) (by omega) (by omega) (by omega)) ?_
          refine zF_icmp_le 88 86 dX10_hasPrintsFor_83 rfl rfl (by first | decide | assumption | exact hb _ | exact mSh_rg hb _ _ | exact zb_rg _ | (constructor <;> omega)) (by first | decide | assumption | exact hb _ | exact mSh_rg hb _ _ | exact zb_rg _ | (constructor <;> omega)) (fun c11 => ?_) (fun c11 => ?_)
          · refine zF_iinc 91 (ls' := [(6, zI (((sx : Nat) : Int) + 1)), (8, zI (mCnt N (mS N s 0) a ((sx : Nat) : Int))), (7, zI a), (5, zI (mS N s 0)), (0, zR (B 300)), (1, zI s), (2, zI a), (3, zI b), (4, zI c)]) dX10_hasPrintsFor_88 rfl rfl rfl (by decide) rfl ?_
            refine zF_goto 14 dX10_hasPrintsFor_91 rfl ?_
            exact zF_locs (ls' := [(6, zI (((sx + 1) : Nat) : Int)), (5, zI (mS N s 0)), (0, zR (B 300)), (1, zI s), (2, zI a), (3, zI b), (4, zI c)]) ⟨zlI rfl (by first | rfl | omega | (push_cast; omega) | exact congrArg (_ + ·) (zbT (by assumption)) | exact congrArg (_ + ·) (zbF (by assumption)) | exact congrArg (_ + ·) (zbT (by omega)) | exact congrArg (_ + ·) (zbF (by omega)) | exact congrArg (_ + ·) (if_pos (by omega)).symm | exact congrArg (_ + ·) (if_neg (by omega)).symm | exact (if_pos (by omega)).symm | exact (if_neg (by omega)).symm | exact zsub_s (if_pos (by omega)).symm | exact zsub_s0 (if_neg (by omega)).symm | exact zadd0 (if_neg (by omega)).symm | exact zadd0 (zbF (by omega)) | exact (Int.sub_zero _).symm), rfl, rfl, rfl, rfl, rfl, rfl, trivial⟩ (ih14 (sx + 1) _ (by omega) (⟨by omega, rfl, fun i hi => by
          by_cases e : i = sx
          · subst e
            unfold okD
            rw [show mFd a b c (i : Int) = a from if_pos (by omega), if_pos (by omega)]
            omega
          · exact hno i (by omega)⟩))
          · refine zF_iconst 87 dX10_hasPrintsFor_86 rfl ?_
            exact zF_zretP dX10_hasPrintsFor_87 rfl (by decide) (zbF (fun q => by have := (mEn_iff hV hW hQ hk a0).mp q sx (by omega); unfold okD at this; rw [show mFd a b c (sx : Int) = a from if_pos (by omega), if_pos (by omega)] at this; omega))
        · refine zF_iinc 70 (ls' := [(8, zI ((mCnt N (mS N s 0) a ((sx : Nat) : Int)) + 1)), (7, zI a), (6, zI ((sx : Nat) : Int)), (5, zI (mS N s 0)), (0, zR (B 300)), (1, zI s), (2, zI a), (3, zI b), (4, zI c)]) dX10_hasPrintsFor_67 rfl rfl rfl (by decide) rfl ?_
          have qn := mCnt_b hV (mS N s 0) a (sx : Int)
          have qp := hV.p a (mS N s 0) (by omega) (by omega) (by omega) (by omega)
          refine zF_iload 72 dX10_hasPrintsFor_70 rfl rfl ?_
          refine zF_aload_n 73 dX10_hasPrintsFor_72 rfl rfl ?_
          refine zF_getR 76 dX10_hasPrintsFor_73 rfl gX10_22 hB.wk.1 hB.wk.2.1 hB.wk.2.2.2.1 ?_
          refine zF_iload 78 dX10_hasPrintsFor_76 rfl rfl ?_
          refine zF_iload 80 dX10_hasPrintsFor_78 rfl rfl ?_
          refine zF_callVi 83 (d2 := (d + 1)) (as := [zI a, zI (mS N s 0)]) dX10_hasPrintsFor_80 rfl kX10_121 iX8_printsAt (ci := 8) rfl eX8_printsAt (Nat.le_refl _) hB.st.1 hB.st.2.1 rfl rfl (Nat.le_of_ble_eq_true rfl) (zt_X8_printsAt hB hR hV (by omega) (by omega) (by omega) (by omega)) ?_
          refine zF_icmp_le 88 86 dX10_hasPrintsFor_83 rfl rfl (by first | decide | assumption | exact hb _ | exact mSh_rg hb _ _ | exact zb_rg _ | (constructor <;> omega)) (by first | decide | assumption | exact hb _ | exact mSh_rg hb _ _ | exact zb_rg _ | (constructor <;> omega)) (fun c12 => ?_) (fun c12 => ?_)
          · refine zF_iinc 91 (ls' := [(6, zI (((sx : Nat) : Int) + 1)), (8, zI ((mCnt N (mS N s 0) a ((sx : Nat) : Int)) + 1)), (7, zI a), (5, zI (mS N s 0)), (0, zR (B 300)), (1, zI s), (2, zI a), (3, zI b), (4, zI c)]) dX10_hasPrintsFor_88 rfl rfl rfl (by decide) rfl ?_
            refine zF_goto 14 dX10_hasPrintsFor_91 rfl ?_
            exact zF_locs (ls' := [(6, zI (((sx + 1) : Nat) : Int)), (5, zI (mS N s 0)), (0, zR (B 300)), (1, zI s), (2, zI a), (3, zI b), (4, zI c)]) ⟨zlI rfl (by first | rfl | omega | (push_cast; omega) | exact congrArg (_ + ·) (zbT (by assumption)) | exact congrArg (_ + ·) (zbF (by assumption)) | exact congrArg (_ + ·) (zbT (by omega)) | exact congrArg (_ + ·) (zbF (by omega)) | exact congrArg (_ + ·) (if_pos (by omega)).symm | exact congrArg (_ + ·) (if_neg (by omega)).symm | exact (if_pos (by omega)).symm | exact (if_neg (by omega)).symm | exact zsub_s (if_pos (by omega)).symm | exact zsub_s0 (if_neg (by omega)).symm | exact zadd0 (if_neg (by omega)).symm | exact zadd0 (zbF (by omega)) | exact (Int.sub_zero _).symm), rfl, rfl, rfl, rfl, rfl, rfl, trivial⟩ (ih14 (sx + 1) _ (by omega) (⟨by omega, rfl, fun i hi => by
          by_cases e : i = sx
          · subst e
            unfold okD
            rw [show mFd a b c (i : Int) = a from if_pos (by omega), if_neg (by omega)]
            omega
          · exact hno i (by omega)⟩))
          · refine zF_iconst 87 dX10_hasPrintsFor_86 rfl ?_
            exact zF_zretP dX10_hasPrintsFor_87 rfl (by decide) (zbF (fun q => by have := (mEn_iff hV hW hQ hk a0).mp q sx (by omega); unfold okD at this; rw [show mFd a b c (sx : Int) = a from if_pos (by omega), if_neg (by omega)] at this; omega))
theorem zt_X8_setBooking {s a b c : Int} (hB : cM σ B) (s0 : 0 ≤ s) (s1 : s < 10) : zE G mX8_setBooking d [zR (B 200), zI s, zI a, zI b, zI c] σ (fun ro σ1 => ro = .inl none ∧ σ1 = zsi (zsi (zsi σ (B 206) s a) (B 207) s b) (B 208) s c) := by
  refine zE_of rfl (by simp [zcat]) (Nat.le_of_ble_eq_true rfl) ?_
  show zF G mX8_setBooking d 0 [(0, zR (B 200)), (1, zI s), (2, zI a), (3, zI b), (4, zI c)] [] σ _
  refine zF_aload_n 1 dX8_setBooking_0 rfl rfl ?_
  refine zF_getR 4 dX8_setBooking_1 rfl gX8_21 hB.st.1 hB.st.2.1 (cB_206 hB).1 ?_
  refine zF_iload_n 5 dX8_setBooking_4 rfl rfl ?_
  refine zF_iload_n 6 dX8_setBooking_5 rfl rfl ?_
  refine zF_iastore 7 dX8_setBooking_6 rfl (cB_206 hB).2.2 (cB_206 hB).2.1 (by omega) (by omega) ?_
  refine zF_aload_n 8 dX8_setBooking_7 rfl rfl ?_
  refine zF_getR 11 dX8_setBooking_8 rfl gX8_24 hB.st.1 hB.st.2.1 (cB_207 hB).1 ?_
  refine zF_iload_n 12 dX8_setBooking_11 rfl rfl ?_
  refine zF_iload_n 13 dX8_setBooking_12 rfl rfl ?_
  refine zF_iastore 14 dX8_setBooking_13 rfl (cB_207 hB).2.2 (cB_207 hB).2.1 (by omega) (by omega) ?_
  refine zF_aload_n 15 dX8_setBooking_14 rfl rfl ?_
  refine zF_getR 18 dX8_setBooking_15 rfl gX8_27 hB.st.1 hB.st.2.1 (cB_208 hB).1 ?_
  refine zF_iload_n 19 dX8_setBooking_18 rfl rfl ?_
  refine zF_iload 21 dX8_setBooking_19 rfl rfl ?_
  refine zF_iastore 22 dX8_setBooking_21 rfl (cB_208 hB).2.2 (cB_208 hB).2.1 (by omega) (by omega) ?_
  exact zF_return dX8_setBooking_22 rfl (⟨rfl, rfl⟩)
theorem zt_X8_addPrints {f p v : Int} (hB : cM σ B) (s0 : 0 ≤ f * 5 + p + 1) (s1 : f * 5 + p + 1 < 30) : zE G mX8_addPrints d [zR (B 200), zI f, zI p, zI v] σ (fun ro σ1 => ro = .inl none ∧ σ1 = zsi σ (B 205) (f * 5 + p + 1) (zia σ (B 205) (f * 5 + p + 1) + v)) := by
  refine zE_of rfl (by simp [zcat]) (Nat.le_of_ble_eq_true rfl) ?_
  show zF G mX8_addPrints d 0 [(0, zR (B 200)), (1, zI f), (2, zI p), (3, zI v)] [] σ _
  refine zF_aload_n 1 dX8_addPrints_0 rfl rfl ?_
  refine zF_getR 4 dX8_addPrints_1 rfl gX8_18 hB.st.1 hB.st.2.1 (cB_205 hB).1 ?_
  refine zF_iload_n 5 dX8_addPrints_4 rfl rfl ?_
  refine zF_iconst 6 dX8_addPrints_5 rfl ?_
  refine zF_imul 7 dX8_addPrints_6 rfl ?_
  refine zF_iload_n 8 dX8_addPrints_7 rfl rfl ?_
  refine zF_iadd 9 dX8_addPrints_8 rfl ?_
  refine zF_iconst 10 dX8_addPrints_9 rfl ?_
  refine zF_iadd 11 dX8_addPrints_10 rfl ?_
  refine zF_dup2 12 dX8_addPrints_11 rfl rfl rfl ?_
  refine zF_iaload 13 dX8_addPrints_12 rfl (cB_205 hB).2.2 (cB_205 hB).2.1 (by omega) (by omega) rfl ?_
  refine zF_iload_n 14 dX8_addPrints_13 rfl rfl ?_
  refine zF_iadd 15 dX8_addPrints_14 rfl ?_
  refine zF_iastore 16 dX8_addPrints_15 rfl (cB_205 hB).2.2 (cB_205 hB).2.1 (by omega) (by omega) ?_
  exact zF_return dX8_addPrints_16 rfl (⟨rfl, rfl⟩)
theorem zt_X8_writeLog {w k v : Int} (hB : cM σ B) (w0 : 0 ≤ w) (w1 : w < 1000) (k0 : 0 ≤ k) (k1 : k < 5) : zE G mX8_writeLog d [zR (B 200), zI w, zI k, zI v] σ (fun ro σ1 => ro = .inl none ∧ σ1 = zsi σ (B 215) (w % 20 * 5 + k) v) := by
  refine zE_of rfl (by simp [zcat]) (Nat.le_of_ble_eq_true rfl) ?_
  show zF G mX8_writeLog d 0 [(0, zR (B 200)), (1, zI w), (2, zI k), (3, zI v)] [] σ _
  refine zF_aload_n 1 dX8_writeLog_0 rfl rfl ?_
  refine zF_getR 4 dX8_writeLog_1 rfl gX8_48 hB.st.1 hB.st.2.1 (cB_215 hB).1 ?_
  refine zF_iload_n 5 dX8_writeLog_4 rfl rfl ?_
  refine zF_bipush 7 dX8_writeLog_5 rfl (by decide) ?_
  refine zF_irem 8 dX8_writeLog_7 rfl (by omega) (by omega) (by omega) (by omega) ?_
  refine zF_iconst 9 dX8_writeLog_8 rfl ?_
  refine zF_imul 10 dX8_writeLog_9 rfl ?_
  refine zF_iload_n 11 dX8_writeLog_10 rfl rfl ?_
  refine zF_iadd 12 dX8_writeLog_11 rfl ?_
  refine zF_iload_n 13 dX8_writeLog_12 rfl rfl ?_
  refine zF_iastore 14 dX8_writeLog_13 rfl (cB_215 hB).2.2 (cB_215 hB).2.1 (by omega) (by omega) ?_
  exact zF_return dX8_writeLog_14 rfl (⟨rfl, rfl⟩)
theorem cRs_bk3 {σ : zMem} {s a b c : Int} (hV : mV N) (hj : ∀ i j, B i = B j → i = j) (s0 : 0 ≤ s) (s1 : s < N 1) (hs0 : mS N s 7 = 0) (h : cRs N σ B 200) : cRs (mBook N s a b c 0) (zsi (zsi (zsi σ (B 206) s a) (B 207) s b) (B 208) s c) B 200 := by
  have hn := hV.n
  have ne : ∀ {i j : Nat}, i ≠ j → B i ≠ B j := fun h e => h (hj _ _ e)
  refine cRs_book hV s0 (by omega) h (fun t => ?_) (fun t => ?_) (fun t => ?_) (fun t t0 t1 => ?_) (fun k k1 k2 k3 k4 k5 => ?_)
  · show zia _ (B 206) t = if t = s then a else zia σ (B 206) t
    rw [zia_si, if_neg (fun q => ne (by decide) q.1), zia_si, if_neg (fun q => ne (by decide) q.1), zia_si]
    by_cases z : t = s
    · rw [if_pos ⟨rfl, z⟩, if_pos z]
    · rw [if_neg (fun q => z q.2), if_neg z]
  · show zia _ (B 207) t = if t = s then b else zia σ (B 207) t
    rw [zia_si, if_neg (fun q => ne (by decide) q.1), zia_si]
    by_cases z : t = s
    · rw [if_pos ⟨rfl, z⟩, if_pos z]
    · rw [if_neg (fun q => z q.2), if_neg z, zia_si, if_neg (fun q => ne (by decide) q.1)]
  · show zia _ (B 208) t = if t = s then c else zia σ (B 208) t
    rw [zia_si]
    by_cases z : t = s
    · rw [if_pos ⟨rfl, z⟩, if_pos z]
    · rw [if_neg (fun q => z q.2), if_neg z, zia_si, if_neg (fun q => ne (by decide) q.1), zia_si, if_neg (fun q => ne (by decide) q.1)]
  · show zia _ (B 209) t = if t = s then 0 else zia σ (B 209) t
    rw [zia_si, if_neg (fun q => ne (by decide) q.1), zia_si, if_neg (fun q => ne (by decide) q.1), zia_si, if_neg (fun q => ne (by decide) q.1)]
    by_cases z : t = s
    · rw [if_pos z, z, (h.2.2.1 s s0 s1).2.2.2.2, hs0]
    · rw [if_neg z]
  · exact (zsi_at (fun e => by have := hj _ _ e; omega) rfl).trans ((zsi_at (fun e => by have := hj _ _ e; omega) rfl).trans (zsi_at (fun e => by have := hj _ _ e; omega) rfl))
theorem zt_X11_takeBooking {N : Int → Int} {H : Int → Int → Int} {u T : Int} {s a b c : Int} (hG : zGd G) (hO : cO σ B) (hH : cHs σ B) (hc : cST (N, H, u) σ B) (g : gS T (N, H, u)) (hk : bkOK N s a b c) (a0 : 0 ≤ a) (zs : zrg s) (zra : zrg a) (zrb : zrg b) (zrc : zrg c) : zE G mX11_takeBooking (d + 7) [zR (B 0), zI s, zI a, zI b, zI c] σ (fun ro σ1 => ro = .inl (some (zI (oBkV N s a b c))) ∧ zFr (cMu B) σ σ1 ∧ cST (oBkS (N, H, u) s a b c) σ1 B) := by
  refine zE_of rfl (by simp [zcat]) (Nat.le_of_ble_eq_true rfl) ?_
  show zF G mX11_takeBooking (d + 7) 0 [(0, zR (B 0)), (1, zI s), (2, zI a), (3, zI b), (4, zI c)] [] σ _
  have hB := hO.1
  have gn : gN T N := g.n
  obtain ⟨hR, nx, hr⟩ := hc
  have hR : cR N σ B := hR
  have hr : cHr H u nx σ B := hr
  have hV : mV N := g.n.v
  have hW : mW N := g.n.w
  have hX : mX N := g.n.x
  have hQ : mQ N := g.n.q
  have hb := hV.b
  have hn := hV.n
  obtain ⟨⟨s0, s1⟩, hka, hkb⟩ := id hk
  have hs := hV.s s s0 (by omega)
  refine zF_aload_n 1 dX11_takeBooking_0 rfl rfl ?_
  refine zF_getR 4 dX11_takeBooking_1 rfl gX11_34 hO.2.1 hO.2.2.1 hO.2.2.2.2.2.2.1 ?_
  refine zF_getR 7 dX11_takeBooking_4 rfl gX11_227 hB.st.1 hB.st.2.1 (cB_209 hB).1 ?_
  refine zF_iload_n 8 dX11_takeBooking_7 rfl rfl ?_
  refine zF_iaload 9 dX11_takeBooking_8 rfl (cB_209 hB).2.2 (cB_209 hB).2.1 (by omega) (by omega) (hR.s.2.2.1 _ (by omega) (by omega)).2.2.2.2 ?_
  refine zF_if_eq 15 12 dX11_takeBooking_9 rfl rfl (by first | decide | assumption | exact hb _ | exact mSh_rg hb _ _ | exact zb_rg _ | (constructor <;> omega)) (fun c1 => ?_) (fun c1 => ?_)
  · refine zF_aload_n 16 dX11_takeBooking_15 rfl rfl ?_
    refine zF_getR 19 dX11_takeBooking_16 rfl gX11_43 hO.2.1 hO.2.2.1 hO.2.2.2.2.2.2.2.1 ?_
    refine zF_iload_n 20 dX11_takeBooking_19 rfl rfl ?_
    refine zF_iload_n 21 dX11_takeBooking_20 rfl rfl ?_
    refine zF_iload_n 22 dX11_takeBooking_21 rfl rfl ?_
    refine zF_iload 24 dX11_takeBooking_22 rfl rfl ?_
    refine zF_callVi 27 (d2 := (d + 6)) (as := [zI s, zI a, zI b, zI c]) dX11_takeBooking_24 rfl kX11_331 iX10_hasPrintsFor (ci := 10) rfl eX10_hasPrintsFor (Nat.le_refl _) hB.wk.1 hB.wk.2.1 rfl rfl (Nat.le_of_ble_eq_true rfl) (zt_X10_hasPrintsFor hB hR hV hW hX hQ hk a0) ?_
    refine zF_ifb_ne 33 30 dX11_takeBooking_27 rfl rfl (fun c2 => ?_) (fun c2 => ?_)
    · refine zF_aload_n 34 dX11_takeBooking_33 rfl rfl ?_
      refine zF_getR 37 dX11_takeBooking_34 rfl gX11_66 hO.2.1 hO.2.2.1 hO.2.2.2.2.2.2.2.2.2.2.1 ?_
      refine zF_aload_n 38 dX11_takeBooking_37 rfl rfl ?_
      refine zF_getR 41 dX11_takeBooking_38 rfl gX11_34 hO.2.1 hO.2.2.1 hO.2.2.2.2.2.2.1 ?_
      refine zF_callV 44 (d2 := (d + 6)) (as := [zR (B 200)]) dX11_takeBooking_41 rfl kX11_335 iX4_record (ci := 4) rfl eX4_record (Nat.le_refl _) hH.1 hH.2.1 rfl rfl (Nat.le_of_ble_eq_true rfl) (zE.mono (zt_X4_record hB hH hV hR.2.1 hr) fun ro σa1 hh1 => ?_)
      obtain ⟨er1, fr1, p1⟩ := hh1
      subst er1
      refine ⟨fr1.1, ?_⟩
      show zF G mX11_takeBooking (d + 7) 44 [(0, zR (B 0)), (1, zI s), (2, zI a), (3, zI b), (4, zI c)] [] σa1 _
      have hBr := cM_fr hB fr1
      have hRr := cR_rg hB (cHm_rg fr1) (by omega) hR
      have hHr := cHs_fr hH fr1
      have hOr := cO_fr hO fr1
      refine zF_aload_n 45 dX11_takeBooking_44 rfl rfl ?_
      refine zF_getR 48 dX11_takeBooking_45 rfl gX11_34 hOr.2.1 hOr.2.2.1 hOr.2.2.2.2.2.2.1 ?_
      refine zF_iload_n 49 dX11_takeBooking_48 rfl rfl ?_
      refine zF_iload_n 50 dX11_takeBooking_49 rfl rfl ?_
      refine zF_iload_n 51 dX11_takeBooking_50 rfl rfl ?_
      refine zF_iload 53 dX11_takeBooking_51 rfl rfl ?_
      refine zF_callV 56 (d2 := (d + 6)) (as := [zI s, zI a, zI b, zI c]) dX11_takeBooking_53 rfl kX11_338 iX8_setBooking (ci := 8) rfl eX8_setBooking (Nat.le_refl _) hBr.st.1 hBr.st.2.1 rfl rfl (Nat.le_of_ble_eq_true rfl) (zE.mono (zt_X8_setBooking hBr (by omega) (by omega)) fun ro σx2 hh2 => ?_)
      obtain ⟨er2, es2⟩ := hh2
      subst er2
      subst es2
      refine ⟨rfl, ?_⟩
      have gB := mBook_N gn hk (e := 0) ⟨Or.inl rfl, fun z => absurd z (by decide)⟩ (mEn_p gn hk a0 (by assumption))
      have hs0 : mS N s 7 = 0 := by omega
      have frB : zFr (zRg 200 216 B) σa1 (zsi (zsi (zsi σa1 (B 206) s a) (B 207) s b) (B 208) s c) := zFr_si (zRg.mk (by omega)) (zFr_si (zRg.mk (by omega)) (zFr_si (zRg.mk (by omega)) zFr.rf))
      have hR0 : cR0 (mBook N s a b c 0) (zsi (zsi (zsi σa1 (B 206) s a) (B 207) s b) (B 208) s c) B := ⟨cRc_cE hV (mBook_cE s0 (by omega)) (cRc_congr (fun k hk2 => frB.rg hB.inj (by omega)) hRr.1), cRs_bk3 hV hB.inj s0 s1 hs0 hRr.2.1⟩
      refine zF_aload_n 57 dX11_takeBooking_56 rfl rfl ?_
      refine zF_getR 60 dX11_takeBooking_57 rfl gX11_43 hOr.2.1 hOr.2.2.1 hOr.2.2.2.2.2.2.2.1 ?_
      refine zF_callV 63 (d2 := (d + 6)) (as := []) dX11_takeBooking_60 rfl kX11_136 iX10_refresh (ci := 10) rfl eX10_refresh (Nat.le_refl _) hBr.wk.1 hBr.wk.2.1 rfl rfl (Nat.le_of_ble_eq_true rfl) (zE.mono (zt_X10_refresh (σ := (zsi (zsi (zsi σa1 (B 206) s a) (B 207) s b) (B 208) s c)) (N := (mBook N s a b c 0)) hBr hR0 gB.v gB.x gB.w) fun ro σa3 hh3 => ?_)
      obtain ⟨er3, fr3, p3⟩ := hh3
      subst er3
      refine ⟨fr3.1, ?_⟩
      show zF G mX11_takeBooking (d + 7) 63 [(0, zR (B 0)), (1, zI s), (2, zI a), (3, zI b), (4, zI c)] [] σa3 _
      have hBf := cM_fr (σ := (zsi (zsi (zsi σa1 (B 206) s a) (B 207) s b) (B 208) s c)) hBr fr3
      have hRf := p3
      have hOf := cO_fr (σ := (zsi (zsi (zsi σa1 (B 206) s a) (B 207) s b) (B 208) s c)) hOr fr3
      have hHf := cHs_fr (σ := (zsi (zsi (zsi σa1 (B 206) s a) (B 207) s b) (B 208) s c)) hHr fr3
      refine zF_aload_n 64 dX11_takeBooking_63 rfl rfl ?_
      refine zF_getR 67 dX11_takeBooking_64 rfl gX11_43 hOf.2.1 hOf.2.2.1 hOf.2.2.2.2.2.2.2.1 ?_
      refine zF_iload_n 68 dX11_takeBooking_67 rfl rfl ?_
      refine zF_callVi 71 (d2 := (d + 6)) (as := [zI s]) dX11_takeBooking_68 rfl kX11_230 iX10_screenTakings (ci := 10) rfl eX10_screenTakings (Nat.le_refl _) hBf.wk.1 hBf.wk.2.1 rfl rfl (Nat.le_of_ble_eq_true rfl) (zt_X10_screenTakings hBf hRf gB.v gB.w (by omega) (by rw [mBook_o N s0 (by omega) (Or.inl (by omega))]; omega)) ?_
      exact zF_ireturn dX11_takeBooking_71 rfl (⟨congrArg (fun z => Sum.inl (some (zI z))) (by unfold oBkV; rw [if_neg (by omega), if_pos (by assumption)]), (cHm_mu fr1).tr ((zRg_mu hB.inj frB (by omega)).tr (zRg_mu hB.inj fr3 (by omega))), by rw [show oBkS (N, H, u) s a b c = sRec (N, H, u) (mBook N s a b c 0) from if_pos ⟨hs0, by assumption⟩]; exact ⟨hRf, _, cHr_rg hB.inj fr3 (by omega) (cHr_rg hB.inj frB (by omega) p1)⟩⟩)
    · refine zF_bipush 32 dX11_takeBooking_30 rfl (by decide) ?_
      exact zF_ireturn dX11_takeBooking_32 rfl (⟨congrArg (fun z => Sum.inl (some (zI z))) (by unfold oBkV; rw [if_neg (by omega), if_neg (by assumption)]), zFr.rf, by rw [show oBkS (N, H, u) s a b c = (N, H, u) from if_neg (fun q => absurd q.2 (by assumption))]; exact ⟨hR, nx, hr⟩⟩)
  · refine zF_bipush 14 dX11_takeBooking_12 rfl (by decide) ?_
    exact zF_ireturn dX11_takeBooking_14 rfl (⟨congrArg (fun z => Sum.inl (some (zI z))) (if_pos (by assumption)).symm, zFr.rf, by rw [show oBkS (N, H, u) s a b c = (N, H, u) from if_neg (fun q => absurd q.1 (by assumption))]; exact ⟨hR, nx, hr⟩⟩)
theorem zt_X11_book {N : Int → Int} {H : Int → Int → Int} {u T : Int} {s f : Int} (hG : zGd G) (hO : cO σ B) (hH : cHs σ B) (hc : cST (N, H, u) σ B) (g : gS T (N, H, u)) (zs : zrg s) (zf : zrg f) : zE G mX11_book (d + 9) [zR (B 0), zI s, zI f] σ (copM (if 0 ≤ s ∧ s < N 1 then if 0 ≤ f ∧ f < N 2 then 0 else 1 else 1) (oBkV N s f (-1) 0) (oBkS (N, H, u) s f (-1) 0) B σ) := by
  refine zE_of rfl (by simp [zcat]) (Nat.le_of_ble_eq_true rfl) ?_
  show zF G mX11_book (d + 9) 0 [(0, zR (B 0)), (1, zI s), (2, zI f)] [] σ _
  have hB := hO.1
  have gn : gN T N := g.n
  obtain ⟨hR, nx, hr⟩ := hc
  have hR : cR N σ B := hR
  have hr : cHr H u nx σ B := hr
  have hV : mV N := g.n.v
  have hW : mW N := g.n.w
  have hX : mX N := g.n.x
  have hQ : mQ N := g.n.q
  have hb := hV.b
  have hn := hV.n
  refine zF_aload_n 1 dX11_book_0 rfl rfl ?_
  refine zF_iload_n 2 dX11_book_1 rfl rfl ?_
  refine zF_callV 5 (d2 := (d + 8)) (as := [zI s]) dX11_book_2 rfl kX11_203 iX11_checkScreen (ci := 11) rfl eX11_checkScreen (Nat.le_refl _) hO.2.1 hO.2.2.1 rfl rfl (Nat.le_of_ble_eq_true rfl) (zE.mono (zt_X11_checkScreen hG hO hR hV (by first | decide | assumption | exact hb _ | exact mSh_rg hb _ _ | exact zb_rg _ | (constructor <;> omega))) fun ro σx1 hh1 => ?_)
  rcases Decidable.em (0 ≤ s ∧ s < N 1) with kc1 | kc1
  rotate_left
  · rw [if_neg kc1] at hh1; obtain ⟨er1, es1⟩ := hh1; subst er1; subst es1; exact ⟨rfl, by decide, copMN (by repeat (first | rw [if_pos (by omega)] | rw [if_neg (by omega)]))⟩
  rw [if_pos kc1] at hh1; obtain ⟨er1, es1⟩ := hh1; subst er1; replace es1 := es1.symm; subst es1; refine ⟨rfl, ?_⟩
  show zF G mX11_book (d + 9) 5 [(0, zR (B 0)), (1, zI s), (2, zI f)] [] σ _
  refine zF_aload_n 6 dX11_book_5 rfl rfl ?_
  refine zF_iload_n 7 dX11_book_6 rfl rfl ?_
  refine zF_callV 10 (d2 := (d + 8)) (as := [zI f]) dX11_book_7 rfl kX11_233 iX11_checkFilm (ci := 11) rfl eX11_checkFilm (Nat.le_refl _) hO.2.1 hO.2.2.1 rfl rfl (Nat.le_of_ble_eq_true rfl) (zE.mono (zt_X11_checkFilm hG hO hR hV (by first | decide | assumption | exact hb _ | exact mSh_rg hb _ _ | exact zb_rg _ | (constructor <;> omega))) fun ro σx2 hh2 => ?_)
  rcases Decidable.em (0 ≤ f ∧ f < N 2) with kc2 | kc2
  rotate_left
  · rw [if_neg kc2] at hh2; obtain ⟨er2, es2⟩ := hh2; subst er2; subst es2; exact ⟨rfl, by decide, copMN (by repeat (first | rw [if_pos (by omega)] | rw [if_neg (by omega)]))⟩
  rw [if_pos kc2] at hh2; obtain ⟨er2, es2⟩ := hh2; subst er2; replace es2 := es2.symm; subst es2; refine ⟨rfl, ?_⟩
  show zF G mX11_book (d + 9) 10 [(0, zR (B 0)), (1, zI s), (2, zI f)] [] σ _
  refine zF_aload_n 11 dX11_book_10 rfl rfl ?_
  refine zF_iload_n 12 dX11_book_11 rfl rfl ?_
  refine zF_iload_n 13 dX11_book_12 rfl rfl ?_
  refine zF_iconst 14 dX11_book_13 rfl ?_
  refine zF_iconst 15 dX11_book_14 rfl ?_
  refine zF_callV 18 (d2 := (d + 8)) (as := [zI s, zI f, zI (-1), zI 0]) dX11_book_15 rfl kX11_325 iX11_takeBooking (ci := 11) rfl eX11_takeBooking (Nat.le_refl _) hO.2.1 hO.2.2.1 rfl rfl (Nat.le_of_ble_eq_true rfl) (zE.mono (zt_X11_takeBooking hG hO hH ⟨hR, nx, hr⟩ g (s := s) (a := f) (b := (-1)) (c := 0) ⟨⟨by omega, by omega⟩, by omega, by omega⟩ (by omega) (by first | decide | assumption | exact hb _ | exact mSh_rg hb _ _ | exact zb_rg _ | (constructor <;> omega)) (by first | decide | assumption | exact hb _ | exact mSh_rg hb _ _ | exact zb_rg _ | (constructor <;> omega)) (by first | decide | assumption | exact hb _ | exact mSh_rg hb _ _ | exact zb_rg _ | (constructor <;> omega)) (by first | decide | assumption | exact hb _ | exact mSh_rg hb _ _ | exact zb_rg _ | (constructor <;> omega))) fun ro σa3 hh3 => ?_)
  obtain ⟨er3, fr3, p3⟩ := hh3
  subst er3
  refine ⟨fr3.1, ?_⟩
  show zF G mX11_book (d + 9) 18 [(0, zR (B 0)), (1, zI s), (2, zI f)] [zI (oBkV N s f (-1) 0)] σa3 _
  exact zF_ireturn dX11_book_18 rfl (copMR fr3 (by repeat (first | rw [if_pos (by omega)] | rw [if_neg (by omega)])) rfl rfl p3)
theorem zt_X11_split {N : Int → Int} {H : Int → Int → Int} {u T : Int} {s a b c : Int} (hG : zGd G) (hO : cO σ B) (hH : cHs σ B) (hc : cST (N, H, u) σ B) (g : gS T (N, H, u)) (zs : zrg s) (zra : zrg a) (zrb : zrg b) (zrc : zrg c) : zE G mX11_split (d + 9) [zR (B 0), zI s, zI a, zI b, zI c] σ (copM (if 0 ≤ s ∧ s < N 1 then if 0 ≤ a ∧ a < N 2 then if 0 ≤ b ∧ b < N 2 then if a ≠ b ∧ 1 ≤ c ∧ c < 7 then 0 else 2 else 1 else 1 else 1) (oBkV N s a b c) (oBkS (N, H, u) s a b c) B σ) := by
  refine zE_of rfl (by simp [zcat]) (Nat.le_of_ble_eq_true rfl) ?_
  show zF G mX11_split (d + 9) 0 [(0, zR (B 0)), (1, zI s), (2, zI a), (3, zI b), (4, zI c)] [] σ _
  have hB := hO.1
  have gn : gN T N := g.n
  obtain ⟨hR, nx, hr⟩ := hc
  have hR : cR N σ B := hR
  have hr : cHr H u nx σ B := hr
  have hV : mV N := g.n.v
  have hW : mW N := g.n.w
  have hX : mX N := g.n.x
  have hQ : mQ N := g.n.q
  have hb := hV.b
  have hn := hV.n
  refine zF_aload_n 1 dX11_split_0 rfl rfl ?_
  refine zF_iload_n 2 dX11_split_1 rfl rfl ?_
  refine zF_callV 5 (d2 := (d + 8)) (as := [zI s]) dX11_split_2 rfl kX11_203 iX11_checkScreen (ci := 11) rfl eX11_checkScreen (Nat.le_refl _) hO.2.1 hO.2.2.1 rfl rfl (Nat.le_of_ble_eq_true rfl) (zE.mono (zt_X11_checkScreen hG hO hR hV (by first | decide | assumption | exact hb _ | exact mSh_rg hb _ _ | exact zb_rg _ | (constructor <;> omega))) fun ro σx1 hh1 => ?_)
  rcases Decidable.em (0 ≤ s ∧ s < N 1) with kc1 | kc1
  rotate_left
  · rw [if_neg kc1] at hh1; obtain ⟨er1, es1⟩ := hh1; subst er1; subst es1; exact ⟨rfl, by decide, copMN (by repeat (first | rw [if_pos (by omega)] | rw [if_neg (by omega)]))⟩
  rw [if_pos kc1] at hh1; obtain ⟨er1, es1⟩ := hh1; subst er1; replace es1 := es1.symm; subst es1; refine ⟨rfl, ?_⟩
  show zF G mX11_split (d + 9) 5 [(0, zR (B 0)), (1, zI s), (2, zI a), (3, zI b), (4, zI c)] [] σ _
  refine zF_aload_n 6 dX11_split_5 rfl rfl ?_
  refine zF_iload_n 7 dX11_split_6 rfl rfl ?_
  refine zF_callV 10 (d2 := (d + 8)) (as := [zI a]) dX11_split_7 rfl kX11_233 iX11_checkFilm (ci := 11) rfl eX11_checkFilm (Nat.le_refl _) hO.2.1 hO.2.2.1 rfl rfl (Nat.le_of_ble_eq_true rfl) (zE.mono (zt_X11_checkFilm hG hO hR hV (by first | decide | assumption | exact hb _ | exact mSh_rg hb _ _ | exact zb_rg _ | (constructor <;> omega))) fun ro σx2 hh2 => ?_)
  rcases Decidable.em (0 ≤ a ∧ a < N 2) with kc2 | kc2
  rotate_left
  · rw [if_neg kc2] at hh2; obtain ⟨er2, es2⟩ := hh2; subst er2; subst es2; exact ⟨rfl, by decide, copMN (by repeat (first | rw [if_pos (by omega)] | rw [if_neg (by omega)]))⟩
  rw [if_pos kc2] at hh2; obtain ⟨er2, es2⟩ := hh2; subst er2; replace es2 := es2.symm; subst es2; refine ⟨rfl, ?_⟩
  show zF G mX11_split (d + 9) 10 [(0, zR (B 0)), (1, zI s), (2, zI a), (3, zI b), (4, zI c)] [] σ _
  refine zF_aload_n 11 dX11_split_10 rfl rfl ?_
  refine zF_iload_n 12 dX11_split_11 rfl rfl ?_
  refine zF_callV 15 (d2 := (d + 8)) (as := [zI b]) dX11_split_12 rfl kX11_233 iX11_checkFilm (ci := 11) rfl eX11_checkFilm (Nat.le_refl _) hO.2.1 hO.2.2.1 rfl rfl (Nat.le_of_ble_eq_true rfl) (zE.mono (zt_X11_checkFilm hG hO hR hV (by first | decide | assumption | exact hb _ | exact mSh_rg hb _ _ | exact zb_rg _ | (constructor <;> omega))) fun ro σx3 hh3 => ?_)
  rcases Decidable.em (0 ≤ b ∧ b < N 2) with kc3 | kc3
  rotate_left
  · rw [if_neg kc3] at hh3; obtain ⟨er3, es3⟩ := hh3; subst er3; subst es3; exact ⟨rfl, by decide, copMN (by repeat (first | rw [if_pos (by omega)] | rw [if_neg (by omega)]))⟩
  rw [if_pos kc3] at hh3; obtain ⟨er3, es3⟩ := hh3; subst er3; replace es3 := es3.symm; subst es3; refine ⟨rfl, ?_⟩
  show zF G mX11_split (d + 9) 15 [(0, zR (B 0)), (1, zI s), (2, zI a), (3, zI b), (4, zI c)] [] σ _
  refine zF_iload_n 16 dX11_split_15 rfl rfl ?_
  refine zF_iload_n 17 dX11_split_16 rfl rfl ?_
  refine zF_icmp_eq 33 20 dX11_split_17 rfl rfl (by first | decide | assumption | exact hb _ | exact mSh_rg hb _ _ | exact zb_rg _ | (constructor <;> omega)) (by first | decide | assumption | exact hb _ | exact mSh_rg hb _ _ | exact zb_rg _ | (constructor <;> omega)) (fun c1 => ?_) (fun c1 => ?_)
  · exact zF_throwW hG rfl zrxA0 zrxA1 zrxA2 zrxA5 zatA zckA zinA (by decide) (by decide) rfl (i := 15) rfl dX11_split_33 dX11_split_36 dX11_split_37 dX11_split_40 dX11_split_43 (by omega) (Nat.le_of_ble_eq_true rfl) (copMA (by repeat (first | rw [if_pos (by omega)] | rw [if_neg (by omega)])))
  · refine zF_iload 22 dX11_split_20 rfl rfl ?_
    refine zF_iconst 23 dX11_split_22 rfl ?_
    refine zF_icmp_lt 33 26 dX11_split_23 rfl rfl (by first | decide | assumption | exact hb _ | exact mSh_rg hb _ _ | exact zb_rg _ | (constructor <;> omega)) (by first | decide | assumption | exact hb _ | exact mSh_rg hb _ _ | exact zb_rg _ | (constructor <;> omega)) (fun c2 => ?_) (fun c2 => ?_)
    · exact zF_throwW hG rfl zrxA0 zrxA1 zrxA2 zrxA5 zatA zckA zinA (by decide) (by decide) rfl (i := 15) rfl dX11_split_33 dX11_split_36 dX11_split_37 dX11_split_40 dX11_split_43 (by omega) (Nat.le_of_ble_eq_true rfl) (copMA (by repeat (first | rw [if_pos (by omega)] | rw [if_neg (by omega)])))
    · refine zF_iload 28 dX11_split_26 rfl rfl ?_
      refine zF_bipush 30 dX11_split_28 rfl (by decide) ?_
      refine zF_icmp_lt 44 33 dX11_split_30 rfl rfl (by first | decide | assumption | exact hb _ | exact mSh_rg hb _ _ | exact zb_rg _ | (constructor <;> omega)) (by first | decide | assumption | exact hb _ | exact mSh_rg hb _ _ | exact zb_rg _ | (constructor <;> omega)) (fun c3 => ?_) (fun c3 => ?_)
      · refine zF_aload_n 45 dX11_split_44 rfl rfl ?_
        refine zF_iload_n 46 dX11_split_45 rfl rfl ?_
        refine zF_iload_n 47 dX11_split_46 rfl rfl ?_
        refine zF_iload_n 48 dX11_split_47 rfl rfl ?_
        refine zF_iload 50 dX11_split_48 rfl rfl ?_
        refine zF_callV 53 (d2 := (d + 8)) (as := [zI s, zI a, zI b, zI c]) dX11_split_50 rfl kX11_325 iX11_takeBooking (ci := 11) rfl eX11_takeBooking (Nat.le_refl _) hO.2.1 hO.2.2.1 rfl rfl (Nat.le_of_ble_eq_true rfl) (zE.mono (zt_X11_takeBooking hG hO hH ⟨hR, nx, hr⟩ g (s := s) (a := a) (b := b) (c := c) ⟨⟨by omega, by omega⟩, by omega, by omega⟩ (by omega) (by first | decide | assumption | exact hb _ | exact mSh_rg hb _ _ | exact zb_rg _ | (constructor <;> omega)) (by first | decide | assumption | exact hb _ | exact mSh_rg hb _ _ | exact zb_rg _ | (constructor <;> omega)) (by first | decide | assumption | exact hb _ | exact mSh_rg hb _ _ | exact zb_rg _ | (constructor <;> omega)) (by first | decide | assumption | exact hb _ | exact mSh_rg hb _ _ | exact zb_rg _ | (constructor <;> omega))) fun ro σa4 hh4 => ?_)
        obtain ⟨er4, fr4, p4⟩ := hh4
        subst er4
        refine ⟨fr4.1, ?_⟩
        show zF G mX11_split (d + 9) 53 [(0, zR (B 0)), (1, zI s), (2, zI a), (3, zI b), (4, zI c)] [zI (oBkV N s a b c)] σa4 _
        exact zF_ireturn dX11_split_53 rfl (copMR fr4 (by repeat (first | rw [if_pos (by omega)] | rw [if_neg (by omega)])) rfl rfl p4)
      · exact zF_throwW hG rfl zrxA0 zrxA1 zrxA2 zrxA5 zatA zckA zinA (by decide) (by decide) rfl (i := 15) rfl dX11_split_33 dX11_split_36 dX11_split_37 dX11_split_40 dX11_split_43 (by omega) (Nat.le_of_ble_eq_true rfl) (copMA (by repeat (first | rw [if_pos (by omega)] | rw [if_neg (by omega)])))
theorem zt_X11_empty {N : Int → Int} {H : Int → Int → Int} {u T : Int} {s : Int} (hG : zGd G) (hO : cO σ B) (hH : cHs σ B) (hc : cST (N, H, u) σ B) (g : gS T (N, H, u)) (zs : zrg s) : zE G mX11_empty (d + 9) [zR (B 0), zI s] σ (copM (if 0 ≤ s ∧ s < N 1 then 0 else 1) (oEmV N s) (oEmS (N, H, u) s) B σ) := by
  refine zE_of rfl (by simp [zcat]) (Nat.le_of_ble_eq_true rfl) ?_
  show zF G mX11_empty (d + 9) 0 [(0, zR (B 0)), (1, zI s)] [] σ _
  have hB := hO.1
  have gn : gN T N := g.n
  obtain ⟨hR, nx, hr⟩ := hc
  have hR : cR N σ B := hR
  have hr : cHr H u nx σ B := hr
  have hV : mV N := g.n.v
  have hW : mW N := g.n.w
  have hX : mX N := g.n.x
  have hQ : mQ N := g.n.q
  have hb := hV.b
  have hn := hV.n
  refine zF_aload_n 1 dX11_empty_0 rfl rfl ?_
  refine zF_iload_n 2 dX11_empty_1 rfl rfl ?_
  refine zF_callV 5 (d2 := (d + 8)) (as := [zI s]) dX11_empty_2 rfl kX11_203 iX11_checkScreen (ci := 11) rfl eX11_checkScreen (Nat.le_refl _) hO.2.1 hO.2.2.1 rfl rfl (Nat.le_of_ble_eq_true rfl) (zE.mono (zt_X11_checkScreen hG hO hR hV (by first | decide | assumption | exact hb _ | exact mSh_rg hb _ _ | exact zb_rg _ | (constructor <;> omega))) fun ro σx1 hh1 => ?_)
  rcases Decidable.em (0 ≤ s ∧ s < N 1) with kc1 | kc1
  rotate_left
  · rw [if_neg kc1] at hh1; obtain ⟨er1, es1⟩ := hh1; subst er1; subst es1; exact ⟨rfl, by decide, copMN (by repeat (first | rw [if_pos (by omega)] | rw [if_neg (by omega)]))⟩
  rw [if_pos kc1] at hh1; obtain ⟨er1, es1⟩ := hh1; subst er1; replace es1 := es1.symm; subst es1; refine ⟨rfl, ?_⟩
  show zF G mX11_empty (d + 9) 5 [(0, zR (B 0)), (1, zI s)] [] σ _
  refine zF_aload_n 6 dX11_empty_5 rfl rfl ?_
  refine zF_getR 9 dX11_empty_6 rfl gX11_34 hO.2.1 hO.2.2.1 hO.2.2.2.2.2.2.1 ?_
  refine zF_getR 12 dX11_empty_9 rfl gX11_227 hB.st.1 hB.st.2.1 (cB_209 hB).1 ?_
  refine zF_iload_n 13 dX11_empty_12 rfl rfl ?_
  refine zF_iaload 14 dX11_empty_13 rfl (cB_209 hB).2.2 (cB_209 hB).2.1 (by omega) (by omega) (hR.s.2.2.1 _ (by omega) (by omega)).2.2.2.2 ?_
  refine zF_if_eq 20 17 dX11_empty_14 rfl rfl (by first | decide | assumption | exact hb _ | exact mSh_rg hb _ _ | exact zb_rg _ | (constructor <;> omega)) (fun c1 => ?_) (fun c1 => ?_)
  · refine zF_aload_n 21 dX11_empty_20 rfl rfl ?_
    refine zF_getR 24 dX11_empty_21 rfl gX11_66 hO.2.1 hO.2.2.1 hO.2.2.2.2.2.2.2.2.2.2.1 ?_
    refine zF_aload_n 25 dX11_empty_24 rfl rfl ?_
    refine zF_getR 28 dX11_empty_25 rfl gX11_34 hO.2.1 hO.2.2.1 hO.2.2.2.2.2.2.1 ?_
    refine zF_callV 31 (d2 := (d + 8)) (as := [zR (B 200)]) dX11_empty_28 rfl kX11_335 iX4_record (ci := 4) rfl eX4_record (Nat.le_refl _) hH.1 hH.2.1 rfl rfl (Nat.le_of_ble_eq_true rfl) (zE.mono (zt_X4_record hB hH hV hR.2.1 hr) fun ro σa2 hh2 => ?_)
    obtain ⟨er2, fr2, p2⟩ := hh2
    subst er2
    refine ⟨fr2.1, ?_⟩
    show zF G mX11_empty (d + 9) 31 [(0, zR (B 0)), (1, zI s)] [] σa2 _
    have hBr := cM_fr hB fr2
    have hRr := cR_rg hB (cHm_rg fr2) (by omega) hR
    have hHr := cHs_fr hH fr2
    have hOr := cO_fr hO fr2
    refine zF_aload_n 32 dX11_empty_31 rfl rfl ?_
    refine zF_getR 35 dX11_empty_32 rfl gX11_34 hOr.2.1 hOr.2.2.1 hOr.2.2.2.2.2.2.1 ?_
    refine zF_getR 38 dX11_empty_35 rfl gX11_218 hBr.st.1 hBr.st.2.1 (cB_206 hBr).1 ?_
    refine zF_iload_n 39 dX11_empty_38 rfl rfl ?_
    refine zF_iaload 40 dX11_empty_39 rfl (cB_206 hBr).2.2 (cB_206 hBr).2.1 (by omega) (by omega) (hRr.s.2.2.1 _ (by omega) (by omega)).2.1 ?_
    refine zF_istore_n 41 (ls' := [(2, zI (mS N s 4)), (0, zR (B 0)), (1, zI s)]) dX11_empty_40 rfl (by decide) rfl ?_
    refine zF_aload_n 42 dX11_empty_41 rfl rfl ?_
    refine zF_getR 45 dX11_empty_42 rfl gX11_34 hOr.2.1 hOr.2.2.1 hOr.2.2.2.2.2.2.1 ?_
    refine zF_iload_n 46 dX11_empty_45 rfl rfl ?_
    refine zF_iconst 47 dX11_empty_46 rfl ?_
    refine zF_iconst 48 dX11_empty_47 rfl ?_
    refine zF_iconst 49 dX11_empty_48 rfl ?_
    refine zF_callV 52 (d2 := (d + 8)) (as := [zI s, zI (-1), zI (-1), zI 0]) dX11_empty_49 rfl kX11_338 iX8_setBooking (ci := 8) rfl eX8_setBooking (Nat.le_refl _) hBr.st.1 hBr.st.2.1 rfl rfl (Nat.le_of_ble_eq_true rfl) (zE.mono (zt_X8_setBooking hBr (by omega) (by omega)) fun ro σx3 hh3 => ?_)
    obtain ⟨er3, es3⟩ := hh3
    subst er3
    subst es3
    refine ⟨rfl, ?_⟩
    have gB := mBook_N gn (s := s) (a := -1) (b := -1) (c := 0) (e := 0) ⟨⟨by omega, by omega⟩, by omega, by omega⟩ ⟨Or.inl rfl, fun z => absurd z (by decide)⟩ (mEmp_p gn (by omega) (by omega))
    have hs0 : mS N s 7 = 0 := by omega
    have frB : zFr (zRg 200 216 B) σa2 (zsi (zsi (zsi σa2 (B 206) s (-1)) (B 207) s (-1)) (B 208) s 0) := zFr_si (zRg.mk (by omega)) (zFr_si (zRg.mk (by omega)) (zFr_si (zRg.mk (by omega)) zFr.rf))
    have hR0 : cR0 (mBook N s (-1) (-1) 0 0) (zsi (zsi (zsi σa2 (B 206) s (-1)) (B 207) s (-1)) (B 208) s 0) B := ⟨cRc_cE hV (mBook_cE (by omega) (by omega)) (cRc_congr (fun k hk2 => frB.rg hB.inj (by omega)) hRr.1), cRs_bk3 hV hB.inj (by omega) (by omega) hs0 hRr.2.1⟩
    refine zF_aload_n 53 dX11_empty_52 rfl rfl ?_
    refine zF_getR 56 dX11_empty_53 rfl gX11_43 hOr.2.1 hOr.2.2.1 hOr.2.2.2.2.2.2.2.1 ?_
    refine zF_callV 59 (d2 := (d + 8)) (as := []) dX11_empty_56 rfl kX11_136 iX10_refresh (ci := 10) rfl eX10_refresh (Nat.le_refl _) hBr.wk.1 hBr.wk.2.1 rfl rfl (Nat.le_of_ble_eq_true rfl) (zE.mono (zt_X10_refresh (σ := (zsi (zsi (zsi σa2 (B 206) s (-1)) (B 207) s (-1)) (B 208) s 0)) (N := (mBook N s (-1) (-1) 0 0)) hBr hR0 gB.v gB.x gB.w) fun ro σa4 hh4 => ?_)
    obtain ⟨er4, fr4, p4⟩ := hh4
    subst er4
    refine ⟨fr4.1, ?_⟩
    show zF G mX11_empty (d + 9) 59 [(2, zI (mS N s 4)), (0, zR (B 0)), (1, zI s)] [] σa4 _
    have hBf := cM_fr (σ := (zsi (zsi (zsi σa2 (B 206) s (-1)) (B 207) s (-1)) (B 208) s 0)) hBr fr4
    have hRf := p4
    have hOf := cO_fr (σ := (zsi (zsi (zsi σa2 (B 206) s (-1)) (B 207) s (-1)) (B 208) s 0)) hOr fr4
    have hHf := cHs_fr (σ := (zsi (zsi (zsi σa2 (B 206) s (-1)) (B 207) s (-1)) (B 208) s 0)) hHr fr4
    refine zF_iload_n 60 dX11_empty_59 rfl rfl ?_
    exact zF_ireturn dX11_empty_60 rfl (copMR ((cHm_mu fr2).tr ((zRg_mu hB.inj frB (by omega)).tr (zRg_mu hB.inj fr4 (by omega)))) (by repeat (first | rw [if_pos (by omega)] | rw [if_neg (by omega)])) (if_neg (by omega)).symm (S' := sRec (N, H, u) (mBook N s (-1) (-1) 0 0)) (if_pos hs0) ⟨hRf, _, cHr_rg hB.inj fr4 (by omega) (cHr_rg hB.inj frB (by omega) p2)⟩)
  · refine zF_bipush 19 dX11_empty_17 rfl (by decide) ?_
    exact zF_ireturn dX11_empty_19 rfl (copMR zFr.rf (by repeat (first | rw [if_pos (by omega)] | rw [if_neg (by omega)])) (if_pos (by assumption)).symm (S' := (N, H, u)) (if_neg (by assumption)) ⟨hR, nx, hr⟩)
theorem zt_X11_setHoldover {N : Int → Int} {H : Int → Int → Int} {u T : Int} {h v : Int} (hG : zGd G) (hO : cO σ B) (hH : cHs σ B) (hc : cST (N, H, u) σ B) (g : gS T (N, H, u)) (zh : zrg h) (zv : zrg v) : zE G mX11_setHoldover (d + 9) [zR (B 0), zI h, zI v] σ (copM (if 0 ≤ h ∧ h < N 0 then if 1 ≤ v ∧ v ≤ 100 then 0 else 2 else 1) (mH N h 1) (sRec (N, H, u) (mSet N (6 + 2 * h + 1) v)) B σ) := by
  refine zE_of rfl (by simp [zcat]) (Nat.le_of_ble_eq_true rfl) ?_
  show zF G mX11_setHoldover (d + 9) 0 [(0, zR (B 0)), (1, zI h), (2, zI v)] [] σ _
  have hB := hO.1
  have gn : gN T N := g.n
  obtain ⟨hR, nx, hr⟩ := hc
  have hR : cR N σ B := hR
  have hr : cHr H u nx σ B := hr
  have hV : mV N := g.n.v
  have hW : mW N := g.n.w
  have hX : mX N := g.n.x
  have hQ : mQ N := g.n.q
  have hb := hV.b
  have hn := hV.n
  refine zF_aload_n 1 dX11_setHoldover_0 rfl rfl ?_
  refine zF_iload_n 2 dX11_setHoldover_1 rfl rfl ?_
  refine zF_callV 5 (d2 := (d + 8)) (as := [zI h]) dX11_setHoldover_2 rfl kX11_181 iX11_checkHouse (ci := 11) rfl eX11_checkHouse (Nat.le_refl _) hO.2.1 hO.2.2.1 rfl rfl (Nat.le_of_ble_eq_true rfl) (zE.mono (zt_X11_checkHouse hG hO hR hV (by first | decide | assumption | exact hb _ | exact mSh_rg hb _ _ | exact zb_rg _ | (constructor <;> omega))) fun ro σx1 hh1 => ?_)
  rcases Decidable.em (0 ≤ h ∧ h < N 0) with kc1 | kc1
  rotate_left
  · rw [if_neg kc1] at hh1; obtain ⟨er1, es1⟩ := hh1; subst er1; subst es1; exact ⟨rfl, by decide, copMN (by repeat (first | rw [if_pos (by omega)] | rw [if_neg (by omega)]))⟩
  rw [if_pos kc1] at hh1; obtain ⟨er1, es1⟩ := hh1; subst er1; replace es1 := es1.symm; subst es1; refine ⟨rfl, ?_⟩
  show zF G mX11_setHoldover (d + 9) 5 [(0, zR (B 0)), (1, zI h), (2, zI v)] [] σ _
  refine zF_iload_n 6 dX11_setHoldover_5 rfl rfl ?_
  refine zF_iconst 7 dX11_setHoldover_6 rfl ?_
  refine zF_icmp_lt 16 10 dX11_setHoldover_7 rfl rfl (by first | decide | assumption | exact hb _ | exact mSh_rg hb _ _ | exact zb_rg _ | (constructor <;> omega)) (by first | decide | assumption | exact hb _ | exact mSh_rg hb _ _ | exact zb_rg _ | (constructor <;> omega)) (fun c1 => ?_) (fun c1 => ?_)
  · exact zF_throwW hG rfl zrxA0 zrxA1 zrxA2 zrxA5 zatA zckA zinA (by decide) (by decide) rfl (i := 17) rfl dX11_setHoldover_16 dX11_setHoldover_19 dX11_setHoldover_20 dX11_setHoldover_23 dX11_setHoldover_26 (by omega) (Nat.le_of_ble_eq_true rfl) (copMA (by repeat (first | rw [if_pos (by omega)] | rw [if_neg (by omega)])))
  · refine zF_iload_n 11 dX11_setHoldover_10 rfl rfl ?_
    refine zF_bipush 13 dX11_setHoldover_11 rfl (by decide) ?_
    refine zF_icmp_le 27 16 dX11_setHoldover_13 rfl rfl (by first | decide | assumption | exact hb _ | exact mSh_rg hb _ _ | exact zb_rg _ | (constructor <;> omega)) (by first | decide | assumption | exact hb _ | exact mSh_rg hb _ _ | exact zb_rg _ | (constructor <;> omega)) (fun c2 => ?_) (fun c2 => ?_)
    · refine zF_aload_n 28 dX11_setHoldover_27 rfl rfl ?_
      refine zF_getR 31 dX11_setHoldover_28 rfl gX11_66 hO.2.1 hO.2.2.1 hO.2.2.2.2.2.2.2.2.2.2.1 ?_
      refine zF_aload_n 32 dX11_setHoldover_31 rfl rfl ?_
      refine zF_getR 35 dX11_setHoldover_32 rfl gX11_34 hO.2.1 hO.2.2.1 hO.2.2.2.2.2.2.1 ?_
      refine zF_callV 38 (d2 := (d + 8)) (as := [zR (B 200)]) dX11_setHoldover_35 rfl kX11_335 iX4_record (ci := 4) rfl eX4_record (Nat.le_refl _) hH.1 hH.2.1 rfl rfl (Nat.le_of_ble_eq_true rfl) (zE.mono (zt_X4_record hB hH hV hR.2.1 hr) fun ro σa2 hh2 => ?_)
      obtain ⟨er2, fr2, p2⟩ := hh2
      subst er2
      refine ⟨fr2.1, ?_⟩
      show zF G mX11_setHoldover (d + 9) 38 [(0, zR (B 0)), (1, zI h), (2, zI v)] [] σa2 _
      have hBr := cM_fr hB fr2
      have hRr := cR_rg hB (cHm_rg fr2) (by omega) hR
      have hHr := cHs_fr hH fr2
      have hOr := cO_fr hO fr2
      refine zF_aload_n 39 dX11_setHoldover_38 rfl rfl ?_
      refine zF_getR 42 dX11_setHoldover_39 rfl gX11_34 hOr.2.1 hOr.2.2.1 hOr.2.2.2.2.2.2.1 ?_
      refine zF_getR 45 dX11_setHoldover_42 rfl gX11_188 hBr.st.1 hBr.st.2.1 (cB_203 hBr).1 ?_
      refine zF_iload_n 46 dX11_setHoldover_45 rfl rfl ?_
      refine zF_iaload 47 dX11_setHoldover_46 rfl (cB_203 hBr).2.2 (cB_203 hBr).2.1 (by omega) (by omega) (hRr.s.2.1 _ (by omega) (by omega)).1 ?_
      refine zF_istore_n 48 (ls' := [(3, zI (mH N h 1)), (0, zR (B 0)), (1, zI h), (2, zI v)]) dX11_setHoldover_47 rfl (by decide) rfl ?_
      refine zF_aload_n 49 dX11_setHoldover_48 rfl rfl ?_
      refine zF_getR 52 dX11_setHoldover_49 rfl gX11_34 hOr.2.1 hOr.2.2.1 hOr.2.2.2.2.2.2.1 ?_
      refine zF_getR 55 dX11_setHoldover_52 rfl gX11_188 hBr.st.1 hBr.st.2.1 (cB_203 hBr).1 ?_
      refine zF_iload_n 56 dX11_setHoldover_55 rfl rfl ?_
      refine zF_iload_n 57 dX11_setHoldover_56 rfl rfl ?_
      refine zF_iastore 58 dX11_setHoldover_57 rfl (cB_203 hBr).2.2 (cB_203 hBr).2.1 (by omega) (by omega) ?_
      refine zF_iload_n 59 dX11_setHoldover_58 rfl rfl ?_
      exact zF_ireturn dX11_setHoldover_59 rfl (copMR ((cHm_mu fr2).tr (zRg_mu hB.inj (zFr_si (zRg.mk (lo := 200) (hi := 216) (by omega)) zFr.rf) (by omega))) (by repeat (first | rw [if_pos (by omega)] | rw [if_neg (by omega)])) rfl (S' := sRec (N, H, u) (mSet N (6 + 2 * h + 1) v)) rfl ⟨cR_hold hBr hV hRr (by omega) (by omega), _, cHr_rg (lo := 200) (hi := 216) hB.inj (zFr_si (zRg.mk (by omega)) zFr.rf) (by omega) p2⟩)
    · exact zF_throwW hG rfl zrxA0 zrxA1 zrxA2 zrxA5 zatA zckA zinA (by decide) (by decide) rfl (i := 17) rfl dX11_setHoldover_16 dX11_setHoldover_19 dX11_setHoldover_20 dX11_setHoldover_23 dX11_setHoldover_26 (by omega) (Nat.le_of_ble_eq_true rfl) (copMA (by repeat (first | rw [if_pos (by omega)] | rw [if_neg (by omega)])))
theorem zt_X11_setRent {N : Int → Int} {H : Int → Int → Int} {u T : Int} {s v : Int} (hG : zGd G) (hO : cO σ B) (hH : cHs σ B) (hc : cST (N, H, u) σ B) (g : gS T (N, H, u)) (zs : zrg s) (zv : zrg v) : zE G mX11_setRent (d + 9) [zR (B 0), zI s, zI v] σ (copM (if 0 ≤ s ∧ s < N 1 then if 0 ≤ v ∧ v ≤ 9999 then 0 else 2 else 1) (mS N s 3) (sRec (N, H, u) (mSet N (14 + 8 * s + 3) v)) B σ) := by
  refine zE_of rfl (by simp [zcat]) (Nat.le_of_ble_eq_true rfl) ?_
  show zF G mX11_setRent (d + 9) 0 [(0, zR (B 0)), (1, zI s), (2, zI v)] [] σ _
  have hB := hO.1
  have gn : gN T N := g.n
  obtain ⟨hR, nx, hr⟩ := hc
  have hR : cR N σ B := hR
  have hr : cHr H u nx σ B := hr
  have hV : mV N := g.n.v
  have hW : mW N := g.n.w
  have hX : mX N := g.n.x
  have hQ : mQ N := g.n.q
  have hb := hV.b
  have hn := hV.n
  refine zF_aload_n 1 dX11_setRent_0 rfl rfl ?_
  refine zF_iload_n 2 dX11_setRent_1 rfl rfl ?_
  refine zF_callV 5 (d2 := (d + 8)) (as := [zI s]) dX11_setRent_2 rfl kX11_203 iX11_checkScreen (ci := 11) rfl eX11_checkScreen (Nat.le_refl _) hO.2.1 hO.2.2.1 rfl rfl (Nat.le_of_ble_eq_true rfl) (zE.mono (zt_X11_checkScreen hG hO hR hV (by first | decide | assumption | exact hb _ | exact mSh_rg hb _ _ | exact zb_rg _ | (constructor <;> omega))) fun ro σx1 hh1 => ?_)
  rcases Decidable.em (0 ≤ s ∧ s < N 1) with kc1 | kc1
  rotate_left
  · rw [if_neg kc1] at hh1; obtain ⟨er1, es1⟩ := hh1; subst er1; subst es1; exact ⟨rfl, by decide, copMN (by repeat (first | rw [if_pos (by omega)] | rw [if_neg (by omega)]))⟩
  rw [if_pos kc1] at hh1; obtain ⟨er1, es1⟩ := hh1; subst er1; replace es1 := es1.symm; subst es1; refine ⟨rfl, ?_⟩
  show zF G mX11_setRent (d + 9) 5 [(0, zR (B 0)), (1, zI s), (2, zI v)] [] σ _
  refine zF_iload_n 6 dX11_setRent_5 rfl rfl ?_
  refine zF_if_lt 16 9 dX11_setRent_6 rfl rfl (by first | decide | assumption | exact hb _ | exact mSh_rg hb _ _ | exact zb_rg _ | (constructor <;> omega)) (fun c1 => ?_) (fun c1 => ?_)
  · exact zF_throwW hG rfl zrxA0 zrxA1 zrxA2 zrxA5 zatA zckA zinA (by decide) (by decide) rfl (i := 18) rfl dX11_setRent_16 dX11_setRent_19 dX11_setRent_20 dX11_setRent_23 dX11_setRent_26 (by omega) (Nat.le_of_ble_eq_true rfl) (copMA (by repeat (first | rw [if_pos (by omega)] | rw [if_neg (by omega)])))
  · refine zF_iload_n 10 dX11_setRent_9 rfl rfl ?_
    refine zF_sipush 13 dX11_setRent_10 rfl (by decide) ?_
    refine zF_icmp_le 27 16 dX11_setRent_13 rfl rfl (by first | decide | assumption | exact hb _ | exact mSh_rg hb _ _ | exact zb_rg _ | (constructor <;> omega)) (by first | decide | assumption | exact hb _ | exact mSh_rg hb _ _ | exact zb_rg _ | (constructor <;> omega)) (fun c2 => ?_) (fun c2 => ?_)
    · refine zF_aload_n 28 dX11_setRent_27 rfl rfl ?_
      refine zF_getR 31 dX11_setRent_28 rfl gX11_66 hO.2.1 hO.2.2.1 hO.2.2.2.2.2.2.2.2.2.2.1 ?_
      refine zF_aload_n 32 dX11_setRent_31 rfl rfl ?_
      refine zF_getR 35 dX11_setRent_32 rfl gX11_34 hO.2.1 hO.2.2.1 hO.2.2.2.2.2.2.1 ?_
      refine zF_callV 38 (d2 := (d + 8)) (as := [zR (B 200)]) dX11_setRent_35 rfl kX11_335 iX4_record (ci := 4) rfl eX4_record (Nat.le_refl _) hH.1 hH.2.1 rfl rfl (Nat.le_of_ble_eq_true rfl) (zE.mono (zt_X4_record hB hH hV hR.2.1 hr) fun ro σa2 hh2 => ?_)
      obtain ⟨er2, fr2, p2⟩ := hh2
      subst er2
      refine ⟨fr2.1, ?_⟩
      show zF G mX11_setRent (d + 9) 38 [(0, zR (B 0)), (1, zI s), (2, zI v)] [] σa2 _
      have hBr := cM_fr hB fr2
      have hRr := cR_rg hB (cHm_rg fr2) (by omega) hR
      have hHr := cHs_fr hH fr2
      have hOr := cO_fr hO fr2
      refine zF_aload_n 39 dX11_setRent_38 rfl rfl ?_
      refine zF_getR 42 dX11_setRent_39 rfl gX11_34 hOr.2.1 hOr.2.2.1 hOr.2.2.2.2.2.2.1 ?_
      refine zF_getR 45 dX11_setRent_42 rfl gX11_215 hBr.st.1 hBr.st.2.1 (cB_204 hBr).1 ?_
      refine zF_iload_n 46 dX11_setRent_45 rfl rfl ?_
      refine zF_iaload 47 dX11_setRent_46 rfl (cB_204 hBr).2.2 (cB_204 hBr).2.1 (by omega) (by omega) (hRr.s.2.2.1 _ (by omega) (by omega)).1 ?_
      refine zF_istore_n 48 (ls' := [(3, zI (mS N s 3)), (0, zR (B 0)), (1, zI s), (2, zI v)]) dX11_setRent_47 rfl (by decide) rfl ?_
      refine zF_aload_n 49 dX11_setRent_48 rfl rfl ?_
      refine zF_getR 52 dX11_setRent_49 rfl gX11_34 hOr.2.1 hOr.2.2.1 hOr.2.2.2.2.2.2.1 ?_
      refine zF_getR 55 dX11_setRent_52 rfl gX11_215 hBr.st.1 hBr.st.2.1 (cB_204 hBr).1 ?_
      refine zF_iload_n 56 dX11_setRent_55 rfl rfl ?_
      refine zF_iload_n 57 dX11_setRent_56 rfl rfl ?_
      refine zF_iastore 58 dX11_setRent_57 rfl (cB_204 hBr).2.2 (cB_204 hBr).2.1 (by omega) (by omega) ?_
      refine zF_iload_n 59 dX11_setRent_58 rfl rfl ?_
      exact zF_ireturn dX11_setRent_59 rfl (copMR ((cHm_mu fr2).tr (zRg_mu hB.inj (zFr_si (zRg.mk (lo := 200) (hi := 216) (by omega)) zFr.rf) (by omega))) (by repeat (first | rw [if_pos (by omega)] | rw [if_neg (by omega)])) rfl (S' := sRec (N, H, u) (mSet N (14 + 8 * s + 3) v)) rfl ⟨cR_rent hBr hV hRr (by omega) (by omega), _, cHr_rg (lo := 200) (hi := 216) hB.inj (zFr_si (zRg.mk (by omega)) zFr.rf) (by omega) p2⟩)
    · exact zF_throwW hG rfl zrxA0 zrxA1 zrxA2 zrxA5 zatA zckA zinA (by decide) (by decide) rfl (i := 18) rfl dX11_setRent_16 dX11_setRent_19 dX11_setRent_20 dX11_setRent_23 dX11_setRent_26 (by omega) (Nat.le_of_ble_eq_true rfl) (copMA (by repeat (first | rw [if_pos (by omega)] | rw [if_neg (by omega)])))
theorem zt_X11_setFee {N : Int → Int} {H : Int → Int → Int} {u T : Int} {v : Int} (hG : zGd G) (hO : cO σ B) (hH : cHs σ B) (hc : cST (N, H, u) σ B) (g : gS T (N, H, u)) (zv : zrg v) : zE G mX11_setFee (d + 9) [zR (B 0), zI v] σ (copM (if 0 ≤ v ∧ v ≤ 999 then 0 else 2) (N 4) (sRec (N, H, u) (mSet N 4 v)) B σ) := by
  refine zE_of rfl (by simp [zcat]) (Nat.le_of_ble_eq_true rfl) ?_
  show zF G mX11_setFee (d + 9) 0 [(0, zR (B 0)), (1, zI v)] [] σ _
  have hB := hO.1
  have gn : gN T N := g.n
  obtain ⟨hR, nx, hr⟩ := hc
  have hR : cR N σ B := hR
  have hr : cHr H u nx σ B := hr
  have hV : mV N := g.n.v
  have hW : mW N := g.n.w
  have hX : mX N := g.n.x
  have hQ : mQ N := g.n.q
  have hb := hV.b
  have hn := hV.n
  refine zF_iload_n 1 dX11_setFee_0 rfl rfl ?_
  refine zF_if_lt 11 4 dX11_setFee_1 rfl rfl (by first | decide | assumption | exact hb _ | exact mSh_rg hb _ _ | exact zb_rg _ | (constructor <;> omega)) (fun c1 => ?_) (fun c1 => ?_)
  · exact zF_throwW hG rfl zrxA0 zrxA1 zrxA2 zrxA5 zatA zckA zinA (by decide) (by decide) rfl (i := 19) rfl dX11_setFee_11 dX11_setFee_14 dX11_setFee_15 dX11_setFee_18 dX11_setFee_21 (by omega) (Nat.le_of_ble_eq_true rfl) (copMA (by repeat (first | rw [if_pos (by omega)] | rw [if_neg (by omega)])))
  · refine zF_iload_n 5 dX11_setFee_4 rfl rfl ?_
    refine zF_sipush 8 dX11_setFee_5 rfl (by decide) ?_
    refine zF_icmp_le 22 11 dX11_setFee_8 rfl rfl (by first | decide | assumption | exact hb _ | exact mSh_rg hb _ _ | exact zb_rg _ | (constructor <;> omega)) (by first | decide | assumption | exact hb _ | exact mSh_rg hb _ _ | exact zb_rg _ | (constructor <;> omega)) (fun c2 => ?_) (fun c2 => ?_)
    · refine zF_aload_n 23 dX11_setFee_22 rfl rfl ?_
      refine zF_getR 26 dX11_setFee_23 rfl gX11_66 hO.2.1 hO.2.2.1 hO.2.2.2.2.2.2.2.2.2.2.1 ?_
      refine zF_aload_n 27 dX11_setFee_26 rfl rfl ?_
      refine zF_getR 30 dX11_setFee_27 rfl gX11_34 hO.2.1 hO.2.2.1 hO.2.2.2.2.2.2.1 ?_
      refine zF_callV 33 (d2 := (d + 8)) (as := [zR (B 200)]) dX11_setFee_30 rfl kX11_335 iX4_record (ci := 4) rfl eX4_record (Nat.le_refl _) hH.1 hH.2.1 rfl rfl (Nat.le_of_ble_eq_true rfl) (zE.mono (zt_X4_record hB hH hV hR.2.1 hr) fun ro σa1 hh1 => ?_)
      obtain ⟨er1, fr1, p1⟩ := hh1
      subst er1
      refine ⟨fr1.1, ?_⟩
      show zF G mX11_setFee (d + 9) 33 [(0, zR (B 0)), (1, zI v)] [] σa1 _
      have hBr := cM_fr hB fr1
      have hRr := cR_rg hB (cHm_rg fr1) (by omega) hR
      have hHr := cHs_fr hH fr1
      have hOr := cO_fr hO fr1
      refine zF_aload_n 34 dX11_setFee_33 rfl rfl ?_
      refine zF_getR 37 dX11_setFee_34 rfl gX11_34 hOr.2.1 hOr.2.2.1 hOr.2.2.2.2.2.2.1 ?_
      refine zF_getI 40 dX11_setFee_37 rfl gX11_164 (by decide) (by decide) hBr.st.1 hBr.st.2.1 hRr.s.1.2.2 ?_
      refine zF_istore_n 41 (ls' := [(2, zI (N 4)), (0, zR (B 0)), (1, zI v)]) dX11_setFee_40 rfl (by decide) rfl ?_
      refine zF_aload_n 42 dX11_setFee_41 rfl rfl ?_
      refine zF_getR 45 dX11_setFee_42 rfl gX11_34 hOr.2.1 hOr.2.2.1 hOr.2.2.2.2.2.2.1 ?_
      refine zF_iload_n 46 dX11_setFee_45 rfl rfl ?_
      refine zF_putI 49 dX11_setFee_46 rfl pX11_setFee_164 (Or.inl rfl) hBr.st.1 hBr.st.2.1 ?_
      refine zF_iload_n 50 dX11_setFee_49 rfl rfl ?_
      exact zF_ireturn dX11_setFee_50 rfl (copMR ((cHm_mu fr1).tr (zRg_mu hB.inj (zFr_si (zRg.mk (lo := 200) (hi := 216) (by omega)) zFr.rf) (by omega))) (by repeat (first | rw [if_pos (by omega)] | rw [if_neg (by omega)])) rfl (S' := sRec (N, H, u) (mSet N 4 v)) rfl ⟨cR_fee hBr hV hRr , _, cHr_rg (lo := 200) (hi := 216) hB.inj (zFr_si (zRg.mk (by omega)) zFr.rf) (by omega) p1⟩)
    · exact zF_throwW hG rfl zrxA0 zrxA1 zrxA2 zrxA5 zatA zckA zinA (by decide) (by decide) rfl (i := 19) rfl dX11_setFee_11 dX11_setFee_14 dX11_setFee_15 dX11_setFee_18 dX11_setFee_21 (by omega) (Nat.le_of_ble_eq_true rfl) (copMA (by repeat (first | rw [if_pos (by omega)] | rw [if_neg (by omega)])))
theorem zt_X11_move {N : Int → Int} {H : Int → Int → Int} {u T : Int} {f p q : Int} (hG : zGd G) (hO : cO σ B) (hH : cHs σ B) (hc : cST (N, H, u) σ B) (g : gS T (N, H, u)) (hT : T < 1000000) (zf : zrg f) (zp : zrg p) (zq : zrg q) : zE G mX11_move (d + 9) [zR (B 0), zI f, zI p, zI q] σ (copM (if 0 ≤ f ∧ f < N 2 then if -1 ≤ p ∧ p < N 0 then if -1 ≤ q ∧ q < N 0 then if p ≠ q then 0 else 2 else 1 else 1 else 1) (oMvV N f p q) (oMvS (N, H, u) f p q) B σ) := by
  refine zE_of rfl (by simp [zcat]) (Nat.le_of_ble_eq_true rfl) ?_
  show zF G mX11_move (d + 9) 0 [(0, zR (B 0)), (1, zI f), (2, zI p), (3, zI q)] [] σ _
  have hB := hO.1
  have gn : gN T N := g.n
  obtain ⟨hR, nx, hr⟩ := hc
  have hR : cR N σ B := hR
  have hr : cHr H u nx σ B := hr
  have hV : mV N := g.n.v
  have hW : mW N := g.n.w
  have hX : mX N := g.n.x
  have hQ : mQ N := g.n.q
  have hb := hV.b
  have hn := hV.n
  refine zF_aload_n 1 dX11_move_0 rfl rfl ?_
  refine zF_iload_n 2 dX11_move_1 rfl rfl ?_
  refine zF_callV 5 (d2 := (d + 8)) (as := [zI f]) dX11_move_2 rfl kX11_233 iX11_checkFilm (ci := 11) rfl eX11_checkFilm (Nat.le_refl _) hO.2.1 hO.2.2.1 rfl rfl (Nat.le_of_ble_eq_true rfl) (zE.mono (zt_X11_checkFilm hG hO hR hV (by first | decide | assumption | exact hb _ | exact mSh_rg hb _ _ | exact zb_rg _ | (constructor <;> omega))) fun ro σx1 hh1 => ?_)
  rcases Decidable.em (0 ≤ f ∧ f < N 2) with kc1 | kc1
  rotate_left
  · rw [if_neg kc1] at hh1; obtain ⟨er1, es1⟩ := hh1; subst er1; subst es1; exact ⟨rfl, by decide, copMN (by repeat (first | rw [if_pos (by omega)] | rw [if_neg (by omega)]))⟩
  rw [if_pos kc1] at hh1; obtain ⟨er1, es1⟩ := hh1; subst er1; replace es1 := es1.symm; subst es1; refine ⟨rfl, ?_⟩
  show zF G mX11_move (d + 9) 5 [(0, zR (B 0)), (1, zI f), (2, zI p), (3, zI q)] [] σ _
  refine zF_aload_n 6 dX11_move_5 rfl rfl ?_
  refine zF_iload_n 7 dX11_move_6 rfl rfl ?_
  refine zF_callV 10 (d2 := (d + 8)) (as := [zI p]) dX11_move_7 rfl kX11_264 iX11_checkPlace (ci := 11) rfl eX11_checkPlace (Nat.le_refl _) hO.2.1 hO.2.2.1 rfl rfl (Nat.le_of_ble_eq_true rfl) (zE.mono (zt_X11_checkPlace hG hO hR hV (by first | decide | assumption | exact hb _ | exact mSh_rg hb _ _ | exact zb_rg _ | (constructor <;> omega))) fun ro σx2 hh2 => ?_)
  rcases Decidable.em (-1 ≤ p ∧ p < N 0) with kc2 | kc2
  rotate_left
  · rw [if_neg kc2] at hh2; obtain ⟨er2, es2⟩ := hh2; subst er2; subst es2; exact ⟨rfl, by decide, copMN (by repeat (first | rw [if_pos (by omega)] | rw [if_neg (by omega)]))⟩
  rw [if_pos kc2] at hh2; obtain ⟨er2, es2⟩ := hh2; subst er2; replace es2 := es2.symm; subst es2; refine ⟨rfl, ?_⟩
  show zF G mX11_move (d + 9) 10 [(0, zR (B 0)), (1, zI f), (2, zI p), (3, zI q)] [] σ _
  refine zF_aload_n 11 dX11_move_10 rfl rfl ?_
  refine zF_iload_n 12 dX11_move_11 rfl rfl ?_
  refine zF_callV 15 (d2 := (d + 8)) (as := [zI q]) dX11_move_12 rfl kX11_264 iX11_checkPlace (ci := 11) rfl eX11_checkPlace (Nat.le_refl _) hO.2.1 hO.2.2.1 rfl rfl (Nat.le_of_ble_eq_true rfl) (zE.mono (zt_X11_checkPlace hG hO hR hV (by first | decide | assumption | exact hb _ | exact mSh_rg hb _ _ | exact zb_rg _ | (constructor <;> omega))) fun ro σx3 hh3 => ?_)
  rcases Decidable.em (-1 ≤ q ∧ q < N 0) with kc3 | kc3
  rotate_left
  · rw [if_neg kc3] at hh3; obtain ⟨er3, es3⟩ := hh3; subst er3; subst es3; exact ⟨rfl, by decide, copMN (by repeat (first | rw [if_pos (by omega)] | rw [if_neg (by omega)]))⟩
  rw [if_pos kc3] at hh3; obtain ⟨er3, es3⟩ := hh3; subst er3; replace es3 := es3.symm; subst es3; refine ⟨rfl, ?_⟩
  show zF G mX11_move (d + 9) 15 [(0, zR (B 0)), (1, zI f), (2, zI p), (3, zI q)] [] σ _
  refine zF_iload_n 16 dX11_move_15 rfl rfl ?_
  refine zF_iload_n 17 dX11_move_16 rfl rfl ?_
  refine zF_icmp_ne 31 20 dX11_move_17 rfl rfl (by first | decide | assumption | exact hb _ | exact mSh_rg hb _ _ | exact zb_rg _ | (constructor <;> omega)) (by first | decide | assumption | exact hb _ | exact mSh_rg hb _ _ | exact zb_rg _ | (constructor <;> omega)) (fun c1 => ?_) (fun c1 => ?_)
  · refine zF_aload_n 32 dX11_move_31 rfl rfl ?_
    refine zF_getR 35 dX11_move_32 rfl gX11_34 hO.2.1 hO.2.2.1 hO.2.2.2.2.2.2.1 ?_
    refine zF_iload_n 36 dX11_move_35 rfl rfl ?_
    refine zF_iload_n 37 dX11_move_36 rfl rfl ?_
    refine zF_callVi 40 (d2 := (d + 8)) (as := [zI f, zI p]) dX11_move_37 rfl kX11_267 iX8_printsAt (ci := 8) rfl eX8_printsAt (Nat.le_refl _) hB.st.1 hB.st.2.1 rfl rfl (Nat.le_of_ble_eq_true rfl) (zt_X8_printsAt hB hR hV (by omega) (by omega) (by omega) (by omega)) ?_
    refine zF_istore 42 (ls' := [(4, zI (mP N f p)), (0, zR (B 0)), (1, zI f), (2, zI p), (3, zI q)]) dX11_move_40 rfl (by decide) rfl ?_
    have qp := hV.p f p (by omega) (by omega) (by omega) (by omega)
    have qq := hV.p f q (by omega) (by omega) (by omega) (by omega)
    have qd := mNeed_b hV p f 7
    have qd2 : mNeed N p f = mNeedN N p f 7 := rfl
    have qi : (if p = -1 then 0 else mNeed N p f) = 0 ∧ p = -1 ∨ (if p = -1 then 0 else mNeed N p f) = mNeed N p f ∧ p ≠ -1 := by by_cases z : p = -1; exact Or.inl ⟨if_pos z, z⟩; exact Or.inr ⟨if_neg z, z⟩
    refine zF_iload 44 dX11_move_42 rfl rfl ?_
    refine zF_if_ne 50 47 dX11_move_44 rfl rfl (by first | decide | assumption | exact hb _ | exact mSh_rg hb _ _ | exact zb_rg _ | (constructor <;> omega)) (fun c2 => ?_) (fun c2 => ?_)
    · refine zF_iload 52 dX11_move_50 rfl rfl ?_
      refine zF_aload_n 53 dX11_move_52 rfl rfl ?_
      refine zF_getR 56 dX11_move_53 rfl gX11_43 hO.2.1 hO.2.2.1 hO.2.2.2.2.2.2.2.1 ?_
      refine zF_iload_n 57 dX11_move_56 rfl rfl ?_
      refine zF_iload_n 58 dX11_move_57 rfl rfl ?_
      refine zF_callVi 61 (d2 := (d + 8)) (as := [zI f, zI p]) dX11_move_58 rfl kX11_344 iX10_printsNeeded (ci := 10) rfl eX10_printsNeeded (Nat.le_refl _) hB.wk.1 hB.wk.2.1 rfl rfl (Nat.le_of_ble_eq_true rfl) (zt_X10_printsNeeded hB hR hV hX (by first | decide | assumption | exact hb _ | exact mSh_rg hb _ _ | exact zb_rg _ | (constructor <;> omega)) (by first | decide | assumption | exact hb _ | exact mSh_rg hb _ _ | exact zb_rg _ | (constructor <;> omega))) ?_
      refine zF_icmp_gt 67 64 dX11_move_61 rfl rfl (by first | decide | assumption | exact hb _ | exact mSh_rg hb _ _ | exact zb_rg _ | (constructor <;> omega)) (by first | decide | assumption | exact hb _ | exact mSh_rg hb _ _ | exact zb_rg _ | (constructor <;> omega)) (fun c3 => ?_) (fun c3 => ?_)
      · refine zF_aload_n 68 dX11_move_67 rfl rfl ?_
        refine zF_getR 71 dX11_move_68 rfl gX11_34 hO.2.1 hO.2.2.1 hO.2.2.2.2.2.2.1 ?_
        refine zF_iload_n 72 dX11_move_71 rfl rfl ?_
        refine zF_iload_n 73 dX11_move_72 rfl rfl ?_
        refine zF_callVi 76 (d2 := (d + 8)) (as := [zI f, zI q]) dX11_move_73 rfl kX11_267 iX8_printsAt (ci := 8) rfl eX8_printsAt (Nat.le_refl _) hB.st.1 hB.st.2.1 rfl rfl (Nat.le_of_ble_eq_true rfl) (zt_X8_printsAt hB hR hV (by omega) (by omega) (by omega) (by omega)) ?_
        refine zF_bipush 78 dX11_move_76 rfl (by decide) ?_
        refine zF_icmp_lt 84 81 dX11_move_78 rfl rfl (by first | decide | assumption | exact hb _ | exact mSh_rg hb _ _ | exact zb_rg _ | (constructor <;> omega)) (by first | decide | assumption | exact hb _ | exact mSh_rg hb _ _ | exact zb_rg _ | (constructor <;> omega)) (fun c4 => ?_) (fun c4 => ?_)
        · refine zF_aload_n 85 dX11_move_84 rfl rfl ?_
          refine zF_getR 88 dX11_move_85 rfl gX11_66 hO.2.1 hO.2.2.1 hO.2.2.2.2.2.2.2.2.2.2.1 ?_
          refine zF_aload_n 89 dX11_move_88 rfl rfl ?_
          refine zF_getR 92 dX11_move_89 rfl gX11_34 hO.2.1 hO.2.2.1 hO.2.2.2.2.2.2.1 ?_
          refine zF_callV 95 (d2 := (d + 8)) (as := [zR (B 200)]) dX11_move_92 rfl kX11_335 iX4_record (ci := 4) rfl eX4_record (Nat.le_refl _) hH.1 hH.2.1 rfl rfl (Nat.le_of_ble_eq_true rfl) (zE.mono (zt_X4_record hB hH hV hR.2.1 hr) fun ro σa4 hh4 => ?_)
          obtain ⟨er4, fr4, p4⟩ := hh4
          subst er4
          refine ⟨fr4.1, ?_⟩
          show zF G mX11_move (d + 9) 95 [(4, zI (mP N f p)), (0, zR (B 0)), (1, zI f), (2, zI p), (3, zI q)] [] σa4 _
          have hBr := cM_fr hB fr4
          have hRr := cR_rg hB (cHm_rg fr4) (by omega) hR
          have hHr := cHs_fr hH fr4
          have hOr := cO_fr hO fr4
          refine zF_aload_n 96 dX11_move_95 rfl rfl ?_
          refine zF_getR 99 dX11_move_96 rfl gX11_34 hOr.2.1 hOr.2.2.1 hOr.2.2.2.2.2.2.1 ?_
          refine zF_iload_n 100 dX11_move_99 rfl rfl ?_
          refine zF_iload_n 101 dX11_move_100 rfl rfl ?_
          refine zF_iconst 102 dX11_move_101 rfl ?_
          refine zF_callV 105 (d2 := (d + 8)) (as := [zI f, zI p, zI (-1)]) dX11_move_102 rfl kX11_347 iX8_addPrints (ci := 8) rfl eX8_addPrints (Nat.le_refl _) hBr.st.1 hBr.st.2.1 rfl rfl (Nat.le_of_ble_eq_true rfl) (zE.mono (zt_X8_addPrints hBr (by omega) (by omega)) fun ro σx5 hh5 => ?_)
          obtain ⟨er5, es5⟩ := hh5
          subst er5
          subst es5
          refine ⟨rfl, ?_⟩
          refine zF_aload_n 106 dX11_move_105 rfl rfl ?_
          refine zF_getR 109 dX11_move_106 rfl gX11_34 hOr.2.1 hOr.2.2.1 hOr.2.2.2.2.2.2.1 ?_
          refine zF_iload_n 110 dX11_move_109 rfl rfl ?_
          refine zF_iload_n 111 dX11_move_110 rfl rfl ?_
          refine zF_iconst 112 dX11_move_111 rfl ?_
          refine zF_callV 115 (d2 := (d + 8)) (as := [zI f, zI q, zI 1]) dX11_move_112 rfl kX11_347 iX8_addPrints (ci := 8) rfl eX8_addPrints (Nat.le_refl _) hBr.st.1 hBr.st.2.1 rfl rfl (Nat.le_of_ble_eq_true rfl) (zE.mono (zt_X8_addPrints hBr (by omega) (by omega)) fun ro σx6 hh6 => ?_)
          obtain ⟨er6, es6⟩ := hh6
          subst er6
          subst es6
          refine ⟨rfl, ?_⟩
          refine zF_aload_n 116 dX11_move_115 rfl rfl ?_
          refine zF_getR 119 dX11_move_116 rfl gX11_34 hOr.2.1 hOr.2.2.1 hOr.2.2.2.2.2.2.1 ?_
          refine zF_dup 120 dX11_move_119 rfl rfl ?_
          refine zF_getI 123 dX11_move_120 rfl gX11_167 (by decide) (by decide) hBr.st.1 hBr.st.2.1 (zsi_N (fun e => absurd (hB.inj _ _ e) (by decide)) (zsi_N (fun e => absurd (hB.inj _ _ e) (by decide)) hRr.s.1.2.1)) ?_
          refine zF_iconst 124 dX11_move_123 rfl ?_
          refine zF_iadd 125 dX11_move_124 rfl ?_
          refine zF_putI 128 dX11_move_125 rfl pX11_move_167 (Or.inl rfl) hBr.st.1 hBr.st.2.1 ?_
          have gM := mMv_N gn hT (f := f) (p := p) (q := q) (by omega) (by omega) (by omega) (by omega) (by omega) (by omega) (by assumption) (by assumption) (by omega) (by omega)
          have ea : zia σa4 (B 205) (f * 5 + p + 1) = mP N f p := (hRr.s.2.2.2.1 f (by omega) (by omega)).2.2.2 p (by omega) (by omega)
          have eb : zia σa4 (B 205) (f * 5 + q + 1) = mP N f q := (hRr.s.2.2.2.1 f (by omega) (by omega)).2.2.2 q (by omega) (by omega)
          have eb2 : ∀ v, zia (zsi σa4 (B 205) (f * 5 + p + 1) v) (B 205) (f * 5 + q + 1) = mP N f q := fun v => zsi_F (by omega) eb
          have hRm : cR (mMv N f p q) (zsi (zsi (zsi σa4 (B 205) (f * 5 + p + 1) (zia σa4 (B 205) (f * 5 + p + 1) + (-1))) (B 205) (f * 5 + q + 1) (zia (zsi σa4 (B 205) (f * 5 + p + 1) (zia σa4 (B 205) (f * 5 + p + 1) + (-1))) (B 205) (f * 5 + q + 1) + 1)) (B 200) ((1 : Nat) : Int) ((N 5) + 1)) B := cR_mv (f := f) (p := p) (q := q) hBr hV hRr (by omega) (by omega) (by omega) (by omega) (by omega) (by omega) (by assumption) (by rw [ea]; omega) (by rw [eb2]) rfl
          have hBm : cM (zsi (zsi (zsi σa4 (B 205) (f * 5 + p + 1) (zia σa4 (B 205) (f * 5 + p + 1) + (-1))) (B 205) (f * 5 + q + 1) (zia (zsi σa4 (B 205) (f * 5 + p + 1) (zia σa4 (B 205) (f * 5 + p + 1) + (-1))) (B 205) (f * 5 + q + 1) + 1)) (B 200) ((1 : Nat) : Int) ((N 5) + 1)) B := hBr
          have frM : zFr (zRg 200 216 B) σa4 (zsi (zsi (zsi σa4 (B 205) (f * 5 + p + 1) (zia σa4 (B 205) (f * 5 + p + 1) + (-1))) (B 205) (f * 5 + q + 1) (zia (zsi σa4 (B 205) (f * 5 + p + 1) (zia σa4 (B 205) (f * 5 + p + 1) + (-1))) (B 205) (f * 5 + q + 1) + 1)) (B 200) ((1 : Nat) : Int) ((N 5) + 1)) := zFr_si (zRg.mk (by omega)) (zFr_si (zRg.mk (by omega)) (zFr_si (zRg.mk (by omega)) zFr.rf))
          refine zF_aload_n 129 dX11_move_128 rfl rfl ?_
          refine zF_getR 132 dX11_move_129 rfl gX11_34 hOr.2.1 hOr.2.2.1 hOr.2.2.2.2.2.2.1 ?_
          refine zF_iload_n 133 dX11_move_132 rfl rfl ?_
          refine zF_iload_n 134 dX11_move_133 rfl rfl ?_
          refine zF_callVi 137 (d2 := (d + 8)) (as := [zI f, zI q]) dX11_move_134 rfl kX11_267 iX8_printsAt (ci := 8) rfl eX8_printsAt (Nat.le_refl _) hBr.st.1 hBr.st.2.1 rfl rfl (Nat.le_of_ble_eq_true rfl) ((zt_X8_printsAt (N := (mMv N f p q)) hBm hRm gM.v (by omega) (by rw [(mMv_o (N := N) (f := f) (p := p) (q := q) (by omega) (by omega) (by omega) (by omega) (by omega) (by omega)).i (by omega)]; omega) (by omega) (by rw [(mMv_o (N := N) (f := f) (p := p) (q := q) (by omega) (by omega) (by omega) (by omega) (by omega) (by omega)).i (by omega)]; omega)).eq (by rw [mMv_p (by omega) (by omega) (by omega) (by omega) (by omega) (by assumption) (by omega) (by omega) (by omega), if_pos ⟨rfl, rfl⟩])) ?_
          exact zF_ireturn dX11_move_137 rfl (copMR ((cHm_mu fr4).tr (zRg_mu hB.inj frM (by omega))) (by repeat (first | rw [if_pos (by omega)] | rw [if_neg (by omega)])) (by unfold oMvV; rw [if_neg (by omega), if_neg (by omega), if_neg (by omega)]) (S' := sRec (N, H, u) (mMv N f p q)) (if_neg (by show ¬ (mP N f p = 0 ∨ (p ≠ -1 ∧ mP N f p ≤ mNeed N p f) ∨ 9 ≤ mP N f q); omega)) ⟨hRm, _, cHr_rg hB.inj frM (by omega) p4⟩)
        · refine zF_bipush 83 dX11_move_81 rfl (by decide) ?_
          exact zF_ireturn dX11_move_83 rfl (copMR zFr.rf (by repeat (first | rw [if_pos (by omega)] | rw [if_neg (by omega)])) (by unfold oMvV; rw [if_neg (by omega), if_neg (by omega), if_pos (by omega)]) (S' := (N, H, u)) (if_pos (Or.inr (Or.inr (by show 9 ≤ mP N f q; omega)))) ⟨hR, nx, hr⟩)
      · refine zF_bipush 66 dX11_move_64 rfl (by decide) ?_
        exact zF_ireturn dX11_move_66 rfl (copMR zFr.rf (by repeat (first | rw [if_pos (by omega)] | rw [if_neg (by omega)])) (by unfold oMvV; rw [if_neg (by omega), if_pos (by omega)]) (S' := (N, H, u)) (if_pos (Or.inr (Or.inl (by show p ≠ -1 ∧ mP N f p ≤ mNeed N p f; omega)))) ⟨hR, nx, hr⟩)
    · refine zF_bipush 49 dX11_move_47 rfl (by decide) ?_
      exact zF_ireturn dX11_move_49 rfl (copMR zFr.rf (by repeat (first | rw [if_pos (by omega)] | rw [if_neg (by omega)])) (by unfold oMvV; rw [if_pos (by omega)]) (S' := (N, H, u)) (if_pos (Or.inl (by show mP N f p = 0; omega))) ⟨hR, nx, hr⟩)
  · exact zF_throwW hG rfl zrxA0 zrxA1 zrxA2 zrxA5 zatA zckA zinA (by decide) (by decide) rfl (i := 16) rfl dX11_move_20 dX11_move_23 dX11_move_24 dX11_move_27 dX11_move_30 (by omega) (Nat.le_of_ble_eq_true rfl) (copMA (by repeat (first | rw [if_pos (by omega)] | rw [if_neg (by omega)])))
end ZC8

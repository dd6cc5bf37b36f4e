/-! the class's operations as the law calls them -/
section ZQB
variable {G : zG} {M : zMeth} {d : Nat} {σ σ1 : zMem} {N : Int → Int} {H : Int → Int → Int} {u T : Int}
theorem gN_set {j v : Int} (g : gN T N) (hT : T ≤ 20000) (hj : (j = 4 ∧ 0 ≤ v ∧ v ≤ 999) ∨ (∃ x, 0 ≤ x ∧ x < 4 ∧ j = 6 + 2 * x + 1 ∧ 0 ≤ v ∧ v ≤ 100) ∨ ∃ s, 0 ≤ s ∧ s < 10 ∧ j = 14 + 8 * s + 3 ∧ 0 ≤ v ∧ v ≤ 9999) : gN T (mSet N j v) ∧ cE N (mSet N j v) := by
  have o : oE N (mSet N j v) := mSet_oE (by
    rcases hj with ⟨e, _⟩ | ⟨x, a, b, e, _⟩ | ⟨s, a, b, e, _⟩
    · exact Or.inl e
    · exact Or.inr (Or.inl ⟨x, a, b, e⟩)
    · exact Or.inr (Or.inr ⟨s, a, b, e⟩))
  have hV := g.v
  have m := g.m
  have vb : 0 ≤ v ∧ v ≤ 9999 := by rcases hj with ⟨_, _, _⟩ | ⟨x, _, _, _, _, _⟩ | ⟨s, _, _, _, _, _⟩ <;> constructor <;> omega
  have jb : 4 ≤ j ∧ j < 94 ∧ j ≠ 5 := by rcases hj with ⟨_, _, _⟩ | ⟨x, _, _, _, _, _⟩ | ⟨s, _, _, _, _, _⟩ <;> refine ⟨?_, ?_, ?_⟩ <;> omega
  refine ⟨gN_gen g o ?_ ?_ (by omega) (fun h h0 h1 => ?_) (fun s s0 s1 => ?_) (fun f p f0 f1 p0 p1 => ?_) (fun h f h0 h1 f0 f1 => ?_), o.c⟩
  · by_cases c : (4 : Int) = j
    · subst c; rw [mSet_at]; constructor <;> omega
    · rw [mSet_o c]; exact hV.b 4
  · rw [mSet_o (by omega)]; exact m
  · by_cases c : 6 + 2 * h + 1 = j
    · have e : mH (mSet N j v) h 1 = v := if_pos c
      rw [e]
      rcases hj with ⟨_, _, _⟩ | ⟨x, _, _, _, _, _⟩ | ⟨s, _, _, _, _, _⟩ <;> constructor <;> omega
    · have e : mH (mSet N j v) h 1 = mH N h 1 := if_neg c
      rw [e]; exact ⟨(hV.h h h0 h1).2.2.1, (hV.h h h0 h1).2.2.2⟩
  · by_cases c : 14 + 8 * s + 3 = j
    · have e : mS (mSet N j v) s 3 = v := if_pos c
      rw [e]; exact vb
    · have e : mS (mSet N j v) s 3 = mS N s 3 := if_neg c
      rw [e]
      have q := hV.s s s0 s1
      constructor <;> omega
  · have e : mP (mSet N j v) f p = mP N f p := if_neg (by omega)
    rw [e]; exact hV.p f p f0 f1 p0 p1
  · have hn := hV.n
    have e : mP (mSet N j v) f h = mP N f h := if_neg (by omega)
    rw [e]; exact g.q.p h f h0 h1 f0 f1
/-- an operation that is done -/
def pOp (N : Int → Int) (H : Int → Int → Int) (u T : Int) (N' : Int → Int) (v : Int) (σ : zMem) (ro : zRes) (σ1 : zMem) : Prop := ro = .inl (some (zI v)) ∧ zFr (cMu B0) σ σ1 ∧ cL T (sRec (N, H, u) N') σ1
/-- one that is refused -/
def pNo (N : Int → Int) (H : Int → Int → Int) (u T : Int) (v : Int) (σ : zMem) (ro : zRes) (σ1 : zMem) : Prop := ro = .inl (some (zI v)) ∧ zFr (cMu B0) σ σ1 ∧ cL T (N, H, u) σ1
theorem cL.rec {T' : Int} {N' : Int → Int} {S' : zS} (k : cL T (N, H, u) σ) (f : zFr (cMu B0) σ σ1) (c : cST S' σ1 B0) (e : S' = sRec (N, H, u) N') (g : gS T' (sRec (N, H, u) N')) (h4 : 0 ≤ N' 4 ∧ N' 4 ≤ 999) : cL T' (sRec (N, H, u) N') σ1 := by
  rw [e] at c
  exact k.op f c g (fe_rec k.2.2.2.2 k.2.2.1 h4)
theorem cL.f4 (k : cL T (N, H, u) σ) : 0 ≤ N 4 ∧ N 4 ≤ 999 := k.2.2.2.2.1
theorem pL_setHoldover {h v : Int} (hG : zGd G) (k : cL T (N, H, u) σ) (hT : T ≤ 20000) (h0 : 0 ≤ h) (h1 : h < N 0) (v0 : 1 ≤ v) (v1 : v ≤ 100) : zE G mX11_setHoldover (d + 9) [zR (B0 0), zI h, zI v] σ (pOp N H u T (mSet N (6 + 2 * h + 1) v) (mH N h 1) σ) := by
  have kk : cK T N σ := k.K
  have hn := kk.V.n
  refine (copM_0 (zt_X11_setHoldover hG k.1.cO k.1.cHs k.2.1 k.2.2.1 (by constructor <;> omega) (by constructor <;> omega)) (by rw [if_pos ⟨h0, h1⟩, if_pos ⟨v0, v1⟩])).mono fun ro σ1 z => ?_
  obtain ⟨e1, e2, e3⟩ := z
  obtain ⟨a, b⟩ := gN_set (j := 6 + 2 * h + 1) (v := v) kk.2.2.1 hT (Or.inr (Or.inl ⟨h, h0, by omega, rfl, by omega, v1⟩))
  exact ⟨e1, e2, k.rec e2 e3 rfl (gS_rec k.2.2.1 a b) (by rw [mSet_o (by omega)]; exact k.f4)⟩
theorem pL_setRent {s v : Int} (hG : zGd G) (k : cL T (N, H, u) σ) (hT : T ≤ 20000) (h0 : 0 ≤ s) (h1 : s < N 1) (v0 : 0 ≤ v) (v1 : v ≤ 9999) : zE G mX11_setRent (d + 9) [zR (B0 0), zI s, zI v] σ (pOp N H u T (mSet N (14 + 8 * s + 3) v) (mS N s 3) σ) := by
  have kk : cK T N σ := k.K
  have hn := kk.V.n
  refine (copM_0 (zt_X11_setRent hG k.1.cO k.1.cHs k.2.1 k.2.2.1 (by constructor <;> omega) (by constructor <;> omega)) (by rw [if_pos ⟨h0, h1⟩, if_pos ⟨v0, v1⟩])).mono fun ro σ1 z => ?_
  obtain ⟨e1, e2, e3⟩ := z
  obtain ⟨a, b⟩ := gN_set (j := 14 + 8 * s + 3) (v := v) kk.2.2.1 hT (Or.inr (Or.inr ⟨s, h0, by omega, rfl, v0, v1⟩))
  exact ⟨e1, e2, k.rec e2 e3 rfl (gS_rec k.2.2.1 a b) (by rw [mSet_o (by omega)]; exact k.f4)⟩
theorem pL_setFee {v : Int} (hG : zGd G) (k : cL T (N, H, u) σ) (hT : T ≤ 20000) (v0 : 0 ≤ v) (v1 : v ≤ 999) : zE G mX11_setFee (d + 9) [zR (B0 0), zI v] σ (pOp N H u T (mSet N 4 v) (N 4) σ) := by
  have kk : cK T N σ := k.K
  refine (copM_0 (zt_X11_setFee hG k.1.cO k.1.cHs k.2.1 k.2.2.1 (by constructor <;> omega)) (by rw [if_pos ⟨v0, v1⟩])).mono fun ro σ1 z => ?_
  obtain ⟨e1, e2, e3⟩ := z
  obtain ⟨a, b⟩ := gN_set (j := 4) (v := v) kk.2.2.1 hT (Or.inl ⟨rfl, v0, v1⟩)
  exact ⟨e1, e2, k.rec e2 e3 rfl (gS_rec k.2.2.1 a b) (by rw [mSet_at]; exact ⟨v0, v1⟩)⟩
theorem mBook_f4 {s a b c e : Int} (s0 : 0 ≤ s) (s1 : s < 10) : mBook N s a b c e 4 = N 4 := mBook_o N s0 s1 (by omega)
theorem pL_empty {s : Int} (hG : zGd G) (k : cL T (N, H, u) σ) (h0 : 0 ≤ s) (h1 : s < N 1) (h7 : mS N s 7 = 0) : zE G mX11_empty (d + 9) [zR (B0 0), zI s] σ (pOp N H u T (mBook N s (-1) (-1) 0 0) (mS N s 4) σ) := by
  have kk : cK T N σ := k.K
  have hn := kk.V.n
  refine (copM_0 (zt_X11_empty hG k.1.cO k.1.cHs k.2.1 k.2.2.1 (by constructor <;> omega)) (by rw [if_pos ⟨h0, h1⟩])).mono fun ro σ1 z => ?_
  obtain ⟨e1, e2, e3⟩ := z
  have es : oEmS (N, H, u) s = sRec (N, H, u) (mBook N s (-1) (-1) 0 0) := if_pos h7
  rw [show oEmV N s = mS N s 4 from if_neg (fun z => z h7)] at e1
  have g := gS_em k.2.2.1 h0 h1
  rw [es] at g
  exact ⟨e1, e2, k.rec e2 e3 es g (by rw [mBook_f4 h0 (by omega)]; exact k.f4)⟩
theorem pL_empty2 {s : Int} (hG : zGd G) (k : cL T (N, H, u) σ) (h0 : 0 ≤ s) (h1 : s < N 1) (h7 : mS N s 7 ≠ 0) : zE G mX11_empty (d + 9) [zR (B0 0), zI s] σ (pNo N H u T (-2) σ) := by
  have kk : cK T N σ := k.K
  have hn := kk.V.n
  refine (copM_0 (zt_X11_empty hG k.1.cO k.1.cHs k.2.1 k.2.2.1 (by constructor <;> omega)) (by rw [if_pos ⟨h0, h1⟩])).mono fun ro σ1 z => ?_
  obtain ⟨e1, e2, e3⟩ := z
  rw [show oEmV N s = -2 from if_pos h7] at e1
  rw [show oEmS (N, H, u) s = (N, H, u) from if_neg h7] at e3
  exact ⟨e1, e2, k.op e2 e3 k.2.2.1 k.2.2.2.2⟩
/-- book and split, as one -/
theorem pL_bk {M : zMeth} {as : List zV} {s a b c : Int} (k : cL T (N, H, u) σ) (ok : bkOK N s a b c) (a0 : 0 ≤ a) (z : zE G M d as σ (fun ro σ1 => ro = .inl (some (zI (oBkV N s a b c))) ∧ zFr (cMu B0) σ σ1 ∧ cST (oBkS (N, H, u) s a b c) σ1 B0)) : zE G M d as σ (fun ro σ1 => (mS N s 7 ≠ 0 ∧ pNo N H u T (-2) σ ro σ1) ∨ (mS N s 7 = 0 ∧ mEn N s a b c ∧ pOp N H u T (mBook N s a b c 0) (cTake (mBook N s a b c 0) s) σ ro σ1) ∨ (mS N s 7 = 0 ∧ ¬ mEn N s a b c ∧ pNo N H u T (-3) σ ro σ1)) := by
  refine z.mono fun ro σ1 z => ?_
  obtain ⟨e1, e2, e3⟩ := z
  have g := gS_bk k.2.2.1 ok a0
  have kk : cK T N σ := k.K
  have hn := kk.V.n
  have hs := ok.1
  by_cases h7 : mS N s 7 = 0
  · by_cases en : mEn N s a b c
    · have es : oBkS (N, H, u) s a b c = sRec (N, H, u) (mBook N s a b c 0) := if_pos ⟨h7, en⟩
      have ev : oBkV N s a b c = cTake (mBook N s a b c 0) s := by
        unfold oBkV
        rw [if_neg (fun z => z h7), if_pos en]
      rw [es] at g
      rw [ev] at e1
      exact Or.inr (Or.inl ⟨h7, en, e1, e2, k.rec e2 e3 es g (by rw [mBook_f4 hs.1 (by omega)]; exact k.f4)⟩)
    · have es : oBkS (N, H, u) s a b c = (N, H, u) := if_neg (fun z => en z.2)
      have ev : oBkV N s a b c = -3 := by
        unfold oBkV
        rw [if_neg (fun z => z h7), if_neg en]
      rw [es] at e3
      rw [ev] at e1
      exact Or.inr (Or.inr ⟨h7, en, e1, e2, k.op e2 e3 k.2.2.1 k.2.2.2.2⟩)
  · have es : oBkS (N, H, u) s a b c = (N, H, u) := if_neg (fun z => h7 z.1)
    have ev : oBkV N s a b c = -2 := if_pos h7
    rw [es] at e3
    rw [ev] at e1
    exact Or.inl ⟨h7, e1, e2, k.op e2 e3 k.2.2.1 k.2.2.2.2⟩
theorem pL_book {s f : Int} (hG : zGd G) (k : cL T (N, H, u) σ) (s0 : 0 ≤ s) (s1 : s < N 1) (f0 : 0 ≤ f) (f1 : f < N 2) : zE G mX11_book (d + 9) [zR (B0 0), zI s, zI f] σ (fun ro σ1 => (mS N s 7 ≠ 0 ∧ pNo N H u T (-2) σ ro σ1) ∨ (mS N s 7 = 0 ∧ mEn N s f (-1) 0 ∧ pOp N H u T (mBook N s f (-1) 0 0) (cTake (mBook N s f (-1) 0 0) s) σ ro σ1) ∨ (mS N s 7 = 0 ∧ ¬ mEn N s f (-1) 0 ∧ pNo N H u T (-3) σ ro σ1)) := by
  have kk : cK T N σ := k.K
  have hn := kk.V.n
  exact pL_bk k ⟨⟨s0, s1⟩, ⟨by omega, f1⟩, Or.inl ⟨rfl, rfl⟩⟩ f0 (copM_0 (zt_X11_book hG k.1.cO k.1.cHs k.2.1 k.2.2.1 (by constructor <;> omega) (by constructor <;> omega)) (by rw [if_pos ⟨s0, s1⟩, if_pos ⟨f0, f1⟩]))
theorem pL_split {s a b c : Int} (hG : zGd G) (k : cL T (N, H, u) σ) (s0 : 0 ≤ s) (s1 : s < N 1) (a0 : 0 ≤ a) (a1 : a < N 2) (b0 : 0 ≤ b) (b1 : b < N 2) (ab : a ≠ b) (c0 : 1 ≤ c) (c1 : c < 7) : zE G mX11_split (d + 9) [zR (B0 0), zI s, zI a, zI b, zI c] σ (fun ro σ1 => (mS N s 7 ≠ 0 ∧ pNo N H u T (-2) σ ro σ1) ∨ (mS N s 7 = 0 ∧ mEn N s a b c ∧ pOp N H u T (mBook N s a b c 0) (cTake (mBook N s a b c 0) s) σ ro σ1) ∨ (mS N s 7 = 0 ∧ ¬ mEn N s a b c ∧ pNo N H u T (-3) σ ro σ1)) := by
  have kk : cK T N σ := k.K
  have hn := kk.V.n
  exact pL_bk k ⟨⟨s0, s1⟩, ⟨by omega, a1⟩, Or.inr ⟨b0, b1, c0, c1, ab, a0⟩⟩ a0 (copM_0 (zt_X11_split hG k.1.cO k.1.cHs k.2.1 k.2.2.1 (by constructor <;> omega) (by constructor <;> omega) (by constructor <;> omega) (by constructor <;> omega)) (by rw [if_pos ⟨s0, s1⟩, if_pos ⟨a0, a1⟩, if_pos ⟨b0, b1⟩, if_pos ⟨ab, c0, c1⟩]))
theorem pL_move {f p q : Int} (hG : zGd G) (k : cL T (N, H, u) σ) (hT : T ≤ 20000) (f0 : 0 ≤ f) (f1 : f < N 2) (p0 : -1 ≤ p) (p1 : p < N 0) (q0 : -1 ≤ q) (q1 : q < N 0) (pq : p ≠ q) : zE G mX11_move (d + 9) [zR (B0 0), zI f, zI p, zI q] σ (fun ro σ1 => (mP N f p = 0 ∧ pNo N H u T (-2) σ ro σ1) ∨ (mP N f p ≠ 0 ∧ (p ≠ -1 ∧ mP N f p ≤ mNeed N p f) ∧ pNo N H u T (-3) σ ro σ1) ∨ (mP N f p ≠ 0 ∧ ¬ (p ≠ -1 ∧ mP N f p ≤ mNeed N p f) ∧ 9 ≤ mP N f q ∧ pNo N H u T (-4) σ ro σ1) ∨ (mP N f p ≠ 0 ∧ ¬ (p ≠ -1 ∧ mP N f p ≤ mNeed N p f) ∧ ¬ 9 ≤ mP N f q ∧ pOp N H u (T + 1) (mMv N f p q) (mP N f q + 1) σ ro σ1)) := by
  have kk : cK T N σ := k.K
  have hn := kk.V.n
  refine (copM_0 (zt_X11_move hG k.1.cO k.1.cHs k.2.1 k.2.2.1 (by omega) (by constructor <;> omega) (by constructor <;> omega) (by constructor <;> omega)) (by rw [if_pos ⟨f0, f1⟩, if_pos ⟨p0, p1⟩, if_pos ⟨q0, q1⟩, if_pos pq])).mono fun ro σ1 z => ?_
  obtain ⟨e1, e2, e3⟩ := z
  have g := gS_mv k.2.2.1 (show T < 1000000 by omega) f0 f1 p0 p1 q0 q1 pq
  unfold oMvV at e1
  by_cases c1 : mP N f p = 0
  · rw [if_pos c1] at e1
    rw [show oMvS (N, H, u) f p q = (N, H, u) from if_pos (Or.inl c1)] at e3
    exact Or.inl ⟨c1, e1, e2, k.op e2 e3 k.2.2.1 k.2.2.2.2⟩
  · rw [if_neg c1] at e1
    by_cases c2 : p ≠ -1 ∧ mP N f p ≤ mNeed N p f
    · rw [if_pos c2] at e1
      rw [show oMvS (N, H, u) f p q = (N, H, u) from if_pos (Or.inr (Or.inl c2))] at e3
      exact Or.inr (Or.inl ⟨c1, c2, e1, e2, k.op e2 e3 k.2.2.1 k.2.2.2.2⟩)
    · rw [if_neg c2] at e1
      by_cases c3 : 9 ≤ mP N f q
      · rw [if_pos c3] at e1
        rw [show oMvS (N, H, u) f p q = (N, H, u) from if_pos (Or.inr (Or.inr c3))] at e3
        exact Or.inr (Or.inr (Or.inl ⟨c1, c2, c3, e1, e2, k.op e2 e3 k.2.2.1 k.2.2.2.2⟩))
      · rw [if_neg c3] at e1
        have es : oMvS (N, H, u) f p q = sRec (N, H, u) (mMv N f p q) := if_neg (fun z => z.elim c1 (fun z => z.elim c2 c3))
        rw [es] at g
        refine Or.inr (Or.inr (Or.inr ⟨c1, c2, c3, e1, e2, k.rec e2 e3 es g ?_⟩))
        unfold mMv
        rw [mSet_o (by omega), mSet_o (by omega), mSet_o (by omega)]
        exact k.f4
end ZQB

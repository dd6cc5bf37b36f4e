/-! the whole list that is said, read into numbers -/
section ZT7
variable {t : Int → Int} {L q : Nat} {D N : Int → Int}
def dN (N : Int → Int) : Prop :=
  (1 ≤ N 0 ∧ N 0 ≤ 3 ∧ 0 ≤ N 1 ∧ N 1 ≤ 6 ∧ 1 ≤ N 2 ∧ N 2 ≤ 4 ∧ N 3 = 0 ∧ 0 ≤ N 4 ∧ N 4 ≤ 999 ∧ N 5 = 0) ∧
  (∀ h, 0 ≤ h → h < N 0 → 1 ≤ mH N h 0 ∧ mH N h 0 ≤ 20 ∧ 1 ≤ mH N h 1 ∧ mH N h 1 ≤ 100) ∧
  (∀ s, 0 ≤ s → s < N 1 → 0 ≤ mS N s 0 ∧ mS N s 0 < N 0 ∧ 1 ≤ mS N s 1 ∧ mS N s 1 ≤ 60 ∧ 1 ≤ mS N s 2 ∧ mS N s 2 ≤ 6 ∧ 0 ≤ mS N s 3 ∧ mS N s 3 ≤ 199 ∧ mS N s 4 = -1 ∧ mS N s 5 = -1 ∧ mS N s 6 = 0 ∧ mS N s 7 = 0) ∧
  (∀ f, 0 ≤ f → f < N 2 → 0 ≤ mF N f 0 ∧ mF N f 0 ≤ 399 ∧ 0 ≤ mF N f 1 ∧ mF N f 1 ≤ 100 ∧ 0 ≤ mF N f 2 ∧ mF N f 2 ≤ 3999 ∧ 1 ≤ mF N f 3 ∧ mF N f 3 ≤ 4 ∧ mF N f 8 = -1 ∧ mF N f 9 = 0 ∧ ∀ k, 0 ≤ k → k < 4 → 0 ≤ mF N f (4 + k) ∧ mF N f (4 + k) ≤ 90) ∧
  (∀ f p, 0 ≤ f → f < N 2 → 0 ≤ p → p ≤ N 0 → 0 ≤ N (154 + 5 * f + p) ∧ N (154 + 5 * f + p) ≤ 3) ∧
  (∀ h f, 0 ≤ h → h < N 0 → 0 ≤ f → f < N 2 → mR N h f = 0) ∧ (∀ k, 0 ≤ k → k < 4 → N (208 + k) = 0) ∧ ∀ h, mCn N h (nS N) ≤ 3
def tH (N : Int → Int) : Nat → List Nat
  | 0 => []
  | a + 1 => tH N a ++ clH (mH N a 0).toNat (mH N a 1).toNat
def tSn (N : Int → Int) : Nat → List Nat
  | 0 => []
  | b + 1 => tSn N b ++ clSc (mS N b 0).toNat (mS N b 1).toNat (mS N b 2).toNat (mS N b 3).toNat
def tPr (N : Int → Int) (f : Nat) : Nat → List Nat
  | 0 => []
  | k + 1 => tPr N f k ++ (if N (154 + 5 * (f : Int) + (k : Int)) = 0 then [] else if k = 0 then clP0 f (N (154 + 5 * (f : Int) + (k : Int))).toNat else clP f (k - 1) (N (154 + 5 * (f : Int) + (k : Int))).toNat)
def uT (N : Int → Int) (f : Nat) (k : Nat) : Nat := (mF N f (4 + (k : Int))).toNat
def tFm (N : Int → Int) : Nat → List Nat
  | 0 => []
  | c + 1 => tFm N c ++ clF (mF N c 0).toNat (mF N c 1).toNat (mF N c 2).toNat (uT N c) (mF N c 3).toNat ++ tPr N c ((N 0).toNat + 1)
def tAll (N : Int → Int) : List Nat := tH N (N 0).toNat ++ tSn N (N 1).toNat ++ tFm N (N 2).toNat ++ clE (N 4).toNat
/-- so much is read -/
def iV (N : Int → Int) (a b c : Nat) (D : Int → Int) : Prop := (D 0 = (a : Int) ∧ D 1 = (b : Int) ∧ D 2 = (c : Int)) ∧ ldV D ∧ (∀ j, 6 ≤ j → j < 6 + 2 * (a : Int) → D j = N j) ∧ (∀ s k, 0 ≤ s → s < (b : Int) → 0 ≤ k → k < 4 → D (14 + 8 * s + k) = N (14 + 8 * s + k)) ∧ ∀ f k, 0 ≤ f → f < (c : Int) → 0 ≤ k → k < 4 + N (94 + 10 * f + 3) → D (94 + 10 * f + k) = N (94 + 10 * f + k)
def iP (N : Int → Int) (c e : Nat) (D : Int → Int) : Prop := ∀ f p : Nat, f ≤ 5 → p ≤ 4 → ((f < c ∨ (f = c ∧ p < e)) ∧ (p : Int) ≤ N 0 → D (154 + 5 * (f : Int) + (p : Int)) = N (154 + 5 * (f : Int) + (p : Int))) ∧ ((c < f ∨ (f = c ∧ e ≤ p)) → D (154 + 5 * (f : Int) + (p : Int)) = 0)
theorem iP_cg {c e : Nat} {D' : Int → Int} (h : iP N c e D) (k : ∀ j, 154 ≤ j → j < 184 → D' j = D j) : iP N c e D' := fun f p hf hp => by
  rw [k _ (by omega) (by omega)]
  exact h f p hf hp
theorem iV_0 {f : Int → Int} (hb : ∀ j, zrg (f j)) : iV N 0 0 0 (zcz f) ∧ iP N 0 0 (zcz f) := by
  have z : ∀ j, 0 ≤ j → j < 312 → zcz f j = 0 := fun j a b => if_pos ⟨a, b⟩
  refine ⟨⟨⟨z _ (by omega) (by omega), z _ (by omega) (by omega), z _ (by omega) (by omega)⟩, ldV_0 hb, fun j a b => absurd b (by omega), fun s k a b => absurd b (by omega), fun s k a b => absurd b (by omega)⟩, fun f p hf hp => ⟨fun w => absurd w.1 (by omega), fun _ => z _ (by omega) (by omega)⟩⟩
theorem rd_h (hN : dN N) : ∀ {a q : Nat} {r : List Nat} {D : Int → Int}, (a : Int) ≤ N 0 → iV N 0 0 0 D → iP N 0 0 D → sfx t L q (tH N a ++ r) → ∃ q' D', sfx t L q' r ∧ rdC t L ((q, 0), D) ((q', 0), D') ∧ iV N a 0 0 D' ∧ iP N 0 0 D' := fun {a} => by
  induction a with
  | zero => intro q r D ha hi hp h; exact ⟨q, D, h, rdC_rf, hi, hp⟩
  | succ a ih =>
    intro q r D ha hi hp h
    have n := hN.1
    have hH := hN.2.1 a (by omega) (by omega)
    obtain ⟨q1, D1, s1, r1, i1, p1⟩ := ih (r := clH (mH N a 0).toNat (mH N a 1).toNat ++ r) (by omega) hi hp (sfx_eq h (by
      show (tH N a ++ clH _ _) ++ r = _
      rw [List.append_assoc]))
    obtain ⟨⟨d0, d1, d2⟩, v, cH, cS, cF⟩ := i1
    obtain ⟨q2, s2, r2⟩ := cl_house (D := D1) (by omega) (by omega) (by omega) (by omega) (by omega) s1
    rw [Int.toNat_of_nonneg (by omega), Int.toNat_of_nonneg (by omega)] at r2
    have v2 := ldV_house (p := mH N a 0) (q := mH N a 1) v (by omega) (by omega) (by omega) (by omega) (by omega)
    rw [d0] at r2 v2
    refine ⟨q2, _, s2, r1.tr r2, ⟨⟨?_, ?_, ?_⟩, v2, fun j j0 j1 => ?_, fun s k b0 b1 => absurd b1 (by omega), fun s k b0 b1 => absurd b1 (by omega)⟩, iP_cg p1 fun j j0 j1 => ?_⟩
    · rw [mSet_at]; omega
    · rw [mSet_o (by omega), mSet_o (by omega), mSet_o (by omega)]; exact d1
    · rw [mSet_o (by omega), mSet_o (by omega), mSet_o (by omega)]; exact d2
    · rw [mSet_o (by omega)]
      by_cases w : j = 6 + 2 * (a : Int) + 1
      · subst w; rw [mSet_at]; rfl
      · rw [mSet_o w]
        by_cases w2 : j = 6 + 2 * (a : Int) + 0
        · subst w2; rw [mSet_at]; rfl
        · rw [mSet_o w2]
          exact cH j j0 (by omega)
    · rw [mSet_o (by omega), mSet_o (by omega), mSet_o (by omega)]
theorem rd_s (hN : dN N) {a : Nat} (ha : (a : Int) = N 0) : ∀ {b q : Nat} {r : List Nat} {D : Int → Int}, (b : Int) ≤ N 1 → iV N a 0 0 D → iP N 0 0 D → sfx t L q (tSn N b ++ r) → ∃ q' D', sfx t L q' r ∧ rdC t L ((q, 0), D) ((q', 0), D') ∧ iV N a b 0 D' ∧ iP N 0 0 D' := fun {b} => by
  induction b with
  | zero => intro q r D hb hi hp h; exact ⟨q, D, h, rdC_rf, hi, hp⟩
  | succ b ih =>
    intro q r D hb hi hp h
    have n := hN.1
    have hS := hN.2.2.1 b (by omega) (by omega)
    obtain ⟨q1, D1, s1, r1, i1, p1⟩ := ih (r := clSc (mS N b 0).toNat (mS N b 1).toNat (mS N b 2).toNat (mS N b 3).toNat ++ r) (by omega) hi hp (sfx_eq h (by
      show (tSn N b ++ clSc _ _ _ _) ++ r = _
      rw [List.append_assoc]))
    obtain ⟨⟨d0, d1, d2⟩, v, cH, cS, cF⟩ := i1
    have hc : mCn D1 (mS N b 0) (nS D1) < 4 := by
      have e1 : nS D1 = b := by unfold nS; omega
      have e2 : mCn D1 (mS N b 0) b = mCn N (mS N b 0) b := mCn_cg fun i hi => cS i 0 (by omega) (by omega) (by omega) (by omega)
      have e3 := mCn_mono N (mS N b 0) (a := b) (b := nS N) (by unfold nS; omega)
      have e4 := hN.2.2.2.2.2.2.2 (mS N b 0)
      rw [e1]
      omega
    obtain ⟨q2, s2, r2⟩ := cl_screen (D := D1) (by omega) (by omega) (by omega) (by rw [Int.toNat_of_nonneg (by omega)]; exact hc) (by omega) (by omega) (by omega) (by omega) (by omega) s1
    rw [Int.toNat_of_nonneg (by omega), Int.toNat_of_nonneg (by omega), Int.toNat_of_nonneg (by omega), Int.toNat_of_nonneg (by omega)] at r2
    have v2 := ldV_screen (v := mS N b 0) (a := mS N b 1) (b := mS N b 2) (c := mS N b 3) v (by omega) (by omega) (by omega) hc (by omega) (by omega) (by omega) (by omega) (by omega) (by omega)
    rw [d1] at r2 v2
    have o : ∀ (M : Int → Int) (j : Int), (j < 14 + 8 * (b : Int) + 4 ∨ 94 ≤ j) → mBook M b (-1) (-1) 0 0 j = M j := fun M j hj => by
      unfold mBook
      rw [if_neg (by omega), if_neg (by omega), if_neg (by omega), if_neg (by omega)]
    refine ⟨q2, _, s2, r1.tr r2, ⟨⟨?_, ?_, ?_⟩, v2, fun j j0 j1 => ?_, fun s k b0 b1 k0 k1 => ?_, fun s k b0 b1 => absurd b1 (by omega)⟩, iP_cg p1 fun j j0 j1 => ?_⟩
    · rw [mSet_o (by omega), o _ _ (by omega), mSet_o (by omega), mSet_o (by omega), mSet_o (by omega), mSet_o (by omega)]; exact d0
    · rw [mSet_at]; omega
    · rw [mSet_o (by omega), o _ _ (by omega), mSet_o (by omega), mSet_o (by omega), mSet_o (by omega), mSet_o (by omega)]; exact d2
    · rw [mSet_o (by omega), o _ _ (by omega), mSet_o (by omega), mSet_o (by omega), mSet_o (by omega), mSet_o (by omega)]
      exact cH j j0 j1
    · rw [mSet_o (by omega), o _ _ (by omega)]
      by_cases w3 : 14 + 8 * s + k = 14 + 8 * (b : Int) + 3
      · rw [w3, mSet_at]; rfl
      · rw [mSet_o w3]
        by_cases w2 : 14 + 8 * s + k = 14 + 8 * (b : Int) + 2
        · rw [w2, mSet_at]; rfl
        · rw [mSet_o w2]
          by_cases w1 : 14 + 8 * s + k = 14 + 8 * (b : Int) + 1
          · rw [w1, mSet_at]; rfl
          · rw [mSet_o w1]
            by_cases w0 : 14 + 8 * s + k = 14 + 8 * (b : Int) + 0
            · rw [w0, mSet_at]; rfl
            · rw [mSet_o w0]
              exact cS s k b0 (by omega) k0 k1
    · rw [mSet_o (by omega), o _ _ (by omega), mSet_o (by omega), mSet_o (by omega), mSet_o (by omega), mSet_o (by omega)]
theorem rd_p (hN : dN N) {a b c : Nat} (ha : (a : Int) = N 0) (hc : (c : Int) < N 2) : ∀ {e q : Nat} {r : List Nat} {D : Int → Int}, (e : Int) ≤ N 0 + 1 → iV N a b (c + 1) D → iP N c 0 D → sfx t L q (tPr N c e ++ r) → ∃ q' D', sfx t L q' r ∧ rdC t L ((q, 0), D) ((q', 0), D') ∧ iV N a b (c + 1) D' ∧ iP N c e D' := fun {e} => by
  induction e with
  | zero => intro q r D he hi hp h; exact ⟨q, D, h, rdC_rf, hi, hp⟩
  | succ e ih =>
    intro q r D he hi hp h
    have n := hN.1
    have hP := hN.2.2.2.2.1 c e (by omega) (by omega) (by omega) (by omega)
    obtain ⟨q1, D1, s1, r1, i1, p1⟩ := ih (by omega) hi hp (sfx_eq h (by
      show (tPr N c e ++ _) ++ r = _
      rw [List.append_assoc]))
    have up : ∀ D2, (∀ j, j ≠ 154 + 5 * (c : Int) + (e : Int) → D2 j = D1 j) → D2 (154 + 5 * (c : Int) + (e : Int)) = N (154 + 5 * (c : Int) + (e : Int)) → iP N c (e + 1) D2 := fun D2 o w f p hf hp => by
      by_cases z : f = c ∧ p = e
      · obtain ⟨z1, z2⟩ := z
        subst z1 z2
        exact ⟨fun _ => w, fun z => absurd z (by omega)⟩
      · have nz : ¬ (154 + 5 * (f : Int) + (p : Int) = 154 + 5 * (c : Int) + (e : Int)) := fun z2 => z (by omega)
        rw [o _ nz]
        have g := p1 f p hf hp
        exact ⟨fun w => g.1 ⟨by omega, w.2⟩, fun w => g.2 (by omega)⟩
    by_cases z : N (154 + 5 * (c : Int) + (e : Int)) = 0
    · rw [if_pos z] at s1
      refine ⟨q1, D1, s1, r1, i1, up D1 (fun _ _ => rfl) ?_⟩
      rw [z]
      exact (p1 c e (by omega) (by omega)).2 (by omega)
    · rw [if_neg z] at s1
      obtain ⟨⟨d0, d1, d2⟩, v, cH, cS, cF⟩ := i1
      have fin : ∃ q2, sfx t L q2 r ∧ rdC t L ((q1, 0), D1) ((q2, 0), mSet D1 (154 + 5 * (c : Int) + (e : Int)) (N (154 + 5 * (c : Int) + (e : Int)))) := by
        by_cases e0 : e = 0
        · rw [if_pos e0] at s1
          obtain ⟨q2, s2, r2⟩ := cl_depot (D := D1) (by omega) (by omega) (by omega) s1
          rw [Int.toNat_of_nonneg (by omega), show 154 + 5 * (c : Int) + -1 + 1 = 154 + 5 * (c : Int) + (e : Int) by omega] at r2
          exact ⟨q2, s2, r2⟩
        · rw [if_neg e0] at s1
          obtain ⟨q2, s2, r2⟩ := cl_prints (D := D1) (by omega) (by omega) (by omega) (by omega) (by omega) s1
          rw [Int.toNat_of_nonneg (by omega), show 154 + 5 * (c : Int) + ((e - 1 : Nat) : Int) + 1 = 154 + 5 * (c : Int) + (e : Int) by omega] at r2
          exact ⟨q2, s2, r2⟩
      obtain ⟨q2, s2, r2⟩ := fin
      have v2 := ldV_print (i := 154 + 5 * (c : Int) + (e : Int)) (v := N (154 + 5 * (c : Int) + (e : Int))) v (by omega) (by omega) (by omega) (by omega)
      refine ⟨q2, _, s2, r1.tr r2, ⟨⟨?_, ?_, ?_⟩, v2, fun j j0 j1 => ?_, fun s k b0 b1 k0 k1 => ?_, fun s k b0 b1 k0 k1 => ?_⟩, up _ (fun j hj => mSet_o hj) (mSet_at _ _ _)⟩
      · rw [mSet_o (by omega)]; exact d0
      · rw [mSet_o (by omega)]; exact d1
      · rw [mSet_o (by omega)]; exact d2
      · rw [mSet_o (by omega)]; exact cH j j0 j1
      · have := v.n; rw [mSet_o (by omega)]; exact cS s k b0 b1 k0 k1
      · have t4 : N (94 + 10 * s + 3) ≤ 4 := (hN.2.2.2.1 s b0 (by omega)).2.2.2.2.2.2.2.1
        rw [mSet_o (by omega)]; exact cF s k b0 b1 k0 k1
theorem rd_f (hN : dN N) {a b : Nat} (ha : (a : Int) = N 0) : ∀ {c q : Nat} {r : List Nat} {D : Int → Int}, (c : Int) ≤ N 2 → iV N a b 0 D → iP N 0 0 D → sfx t L q (tFm N c ++ r) → ∃ q' D', sfx t L q' r ∧ rdC t L ((q, 0), D) ((q', 0), D') ∧ iV N a b c D' ∧ iP N c 0 D' := fun {c} => by
  induction c with
  | zero => intro q r D hc hi hp h; exact ⟨q, D, h, rdC_rf, hi, hp⟩
  | succ c ih =>
    intro q r D hc hi hp h
    have n := hN.1
    have hF := hN.2.2.2.1 c (by omega) (by omega)
    obtain ⟨q1, D1, s1, r1, i1, p1⟩ := ih (r := clF (mF N c 0).toNat (mF N c 1).toNat (mF N c 2).toNat (uT N c) (mF N c 3).toNat ++ (tPr N c ((N 0).toNat + 1) ++ r)) (by omega) hi hp (sfx_eq h (by
      show (tFm N c ++ clF _ _ _ _ _ ++ tPr N c ((N 0).toNat + 1)) ++ r = _
      rw [List.append_assoc, List.append_assoc]))
    obtain ⟨⟨d0, d1, d2⟩, v, cH, cS, cF⟩ := i1
    have vn := v.n
    have hu : ∀ i, i < (mF N c 3).toNat → uT N c i ≤ 90 := fun i hi => by
      have := hF.2.2.2.2.2.2.2.2.2.2 i (by omega) (by omega)
      unfold uT
      omega
    obtain ⟨q2, sx, s2, ku, r2⟩ := cl_film (D := D1) (by omega) (by omega) (by omega) (by omega) (by omega) (by omega) hu s1
    have k9 : ∀ i, i < (mF N c 3).toNat → 0 ≤ tNumV t L 0 90 (tIt t L sx i) ∧ tNumV t L 0 90 (tIt t L sx i) ≤ 90 := fun i hi => by
      rw [ku i hi]
      have := hu i hi
      omega
    rw [Int.toNat_of_nonneg (a := mF N c 0) (by omega), Int.toNat_of_nonneg (a := mF N c 1) (by omega), Int.toNat_of_nonneg (a := mF N c 2) (by omega), Int.toNat_of_nonneg (a := mF N c 3) (by omega)] at r2
    have v2 := ldV_film (a := mF N c 0) (b := mF N c 1) (g := mF N c 2) v (by omega) (by omega) (by omega) (by omega) (by omega) (by omega) (by omega) (by omega) (by omega) k9
    rw [Int.toNat_of_nonneg (a := mF N c 3) (by omega)] at v2
    rw [d2] at r2 v2
    have n3 : ((mF N c 3).toNat : Int) = mF N c 3 := Int.toNat_of_nonneg (by omega)
    have o : ∀ j, j ≠ 2 → (j < 94 + 10 * (c : Int) ∨ 94 + 10 * (c : Int) + 9 ≤ j) → mSet (mSet (mSet (mTm t L (mSet (mSet (mSet D1 (94 + 10 * (c : Int) + 0) (mF N c 0)) (94 + 10 * (c : Int) + 1) (mF N c 1)) (94 + 10 * (c : Int) + 2) (mF N c 2)) sx (94 + 10 * (c : Int) + 4) (mF N c 3).toNat) (94 + 10 * (c : Int) + 3) (mF N c 3)) (94 + 10 * (c : Int) + 8) (-1)) 2 ((c : Int) + 1) j = D1 j := fun j j2 hj => by
      rw [mSet_o j2, mSet_o (by omega), mSet_o (by omega), mTm_o (by omega), mSet_o (by omega), mSet_o (by omega), mSet_o (by omega)]
    have i2 : iV N a b (c + 1) _ := ⟨⟨(o 0 (by omega) (by omega)).trans d0, (o 1 (by omega) (by omega)).trans d1, by rw [mSet_at]; omega⟩, v2, fun j j0 j1 => (o j (by omega) (by omega)).trans (cH j j0 j1), fun s k b0 b1 k0 k1 => (o _ (by omega) (by omega)).trans (cS s k b0 b1 k0 k1), fun f k f0 f1 k0 k1 => ?_⟩
    · have p2 : iP N c 0 _ := iP_cg p1 fun j j0 j1 => o j (by omega) (by omega)
      obtain ⟨q3, D3, s3, r3, i3, p3⟩ := rd_p hN ha (by omega) (by omega) i2 p2 s2
      refine ⟨q3, D3, s3, (r1.tr r2).tr r3, i3, fun f p hf hp => ?_⟩
      have g := p3 f p hf hp
      exact ⟨fun w => g.1 ⟨by omega, w.2⟩, fun w => g.2 (by omega)⟩
    · by_cases fc : f < (c : Int)
      · have t4 : N (94 + 10 * f + 3) ≤ 4 := (hN.2.2.2.1 f f0 (by omega)).2.2.2.2.2.2.2.1
        exact (o _ (by omega) (by omega)).trans (cF f k f0 fc k0 k1)
      · have e : f = (c : Int) := by omega
        subst e
        have t4 : N (94 + 10 * (c : Int) + 3) ≤ 4 := (hN.2.2.2.1 c f0 (by omega)).2.2.2.2.2.2.2.1
        have n3' : N (94 + 10 * (c : Int) + 3) = mF N c 3 := rfl
        rw [mSet_o (by omega), mSet_o (by omega)]
        by_cases w3 : k = 3
        · subst w3; rw [mSet_at]; rfl
        · rw [mSet_o (by omega)]
          by_cases w4 : 4 ≤ k
          · have := mTm_u (t := t) (L := L) (D := mSet (mSet (mSet D1 (94 + 10 * (c : Int) + 0) (mF N c 0)) (94 + 10 * (c : Int) + 1) (mF N c 1)) (94 + 10 * (c : Int) + 2) (mF N c 2)) (b := 94 + 10 * (c : Int) + 4) ku (k - 4).toNat (by omega)
            rw [show 94 + 10 * (c : Int) + 4 + (((k - 4).toNat : Nat) : Int) = 94 + 10 * (c : Int) + k by omega] at this
            rw [this]
            have hb := hF.2.2.2.2.2.2.2.2.2.2 (k - 4) (by omega) (by omega)
            unfold uT
            rw [show (4 : Int) + (((k - 4).toNat : Nat) : Int) = 4 + (k - 4) by omega, Int.toNat_of_nonneg hb.1, show (4 : Int) + (k - 4) = k by omega]
            rfl
          · rw [mTm_o (by omega)]
            by_cases w2 : k = 2
            · subst w2; rw [mSet_at]; rfl
            · rw [mSet_o (by omega)]
              by_cases w1 : k = 1
              · subst w1; rw [mSet_at]; rfl
              · rw [mSet_o (by omega)]
                rw [show k = 0 by omega, mSet_at]; rfl
/-- the whole text, read -/
theorem rd_all (hN : dN N) {f : Int → Int} (hb : ∀ j, zrg (f j)) (h : sfx t L 0 (tAll N)) : ∃ D, rdC t L ((0, 0), zcz f) ((L, 0), D) ∧ iV N (N 0).toNat (N 1).toNat (N 2).toNat D ∧ iP N (N 2).toNat 0 D ∧ D 4 = N 4 := by
  have n := hN.1
  obtain ⟨i0, p0⟩ := iV_0 (N := N) hb
  have h0 : sfx t L 0 (tH N (N 0).toNat ++ (tSn N (N 1).toNat ++ (tFm N (N 2).toNat ++ (clE (N 4).toNat ++ [])))) := sfx_eq h (by
    unfold tAll
    rw [List.append_nil, List.append_assoc, List.append_assoc])
  obtain ⟨q1, D1, s1, r1, i1, p1⟩ := rd_h hN (by omega) i0 p0 h0
  obtain ⟨q2, D2, s2, r2, i2, p2⟩ := rd_s hN (by omega) (by omega) i1 p1 s1
  obtain ⟨q3, D3, s3, r3, i3, p3⟩ := rd_f hN (by omega) (by omega) i2 p2 s2
  obtain ⟨q4, s4, r4⟩ := cl_fee (D := D3) (by omega) s3
  have e4 : q4 = L := s4.1
  subst e4
  rw [Int.toNat_of_nonneg (by omega)] at r4
  obtain ⟨⟨d0, d1, d2⟩, v, cH, cS, cF⟩ := i3
  refine ⟨_, ((r1.tr r2).tr r3).tr r4, ⟨⟨?_, ?_, ?_⟩, ldV_fee v (by omega) (by omega), fun j j0 j1 => ?_, fun s k b0 b1 k0 k1 => ?_, fun s k b0 b1 k0 k1 => ?_⟩, iP_cg p3 fun j j0 j1 => mSet_o (by omega), mSet_at _ _ _⟩
  · rw [mSet_o (by omega)]; exact d0
  · rw [mSet_o (by omega)]; exact d1
  · rw [mSet_o (by omega)]; exact d2
  · rw [mSet_o (by omega)]; exact cH j j0 j1
  · rw [mSet_o (by omega)]; exact cS s k b0 b1 k0 k1
  · rw [mSet_o (by omega)]; exact cF s k b0 b1 k0 k1
end ZT7

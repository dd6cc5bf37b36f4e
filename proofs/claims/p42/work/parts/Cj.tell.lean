/-! the law tells its list, the class loads it -/
section ZT8
variable {G : zG} {M : zMeth} {d pc : Nat} {ls : List (Nat × zV)} {st : List zV} {σ : zMem} {Q : zRes → zMem → Prop} {P : Nat → Int → Prop} {wh : Nat} {E : Nat → Nat} {N : Int → Int} {Q0 : Prop}
theorem eO.fr {σ1 : zMem} {P : Nat → Int → Prop} (h : eO N σ E) (f : zFr P σ σ1) (k : ∀ i j, ¬ P (E i) j) : eO N σ1 E := by
  have ia : ∀ i j, zia σ1 (E i) j = zia σ (E i) j := fun i j => f.2.2.2.2.2 _ _ (k i j)
  refine ⟨?_, ⟨by rw [ia]; exact h.i0, by rw [ia]; exact h.i1, by rw [ia]; exact h.i2, by rw [ia]; exact h.i3, by rw [ia]; exact h.i4, by rw [ia]; exact h.i5⟩, fun a b c e g q => by rw [ia]; exact h.c6 a b c e g q, fun a b c e g q => by rw [ia]; exact h.c7 a b c e g q, fun a b c e g => by rw [ia]; exact h.c8q a b c e g, fun a b c e g q => by rw [ia]; exact h.c9 a b c e g q, fun a b c e g q => by rw [ia]; exact h.c10 a b c e g q, fun a b c => by rw [ia]; exact h.c11 a b c⟩
  have s := h.1
  unfold eSh eOb eRw at s ⊢
  rw [f.1, f.2.1, f.2.2.1]
  exact s
/-- any cell of the class, or the row that a text is said by -/
def PBw (wh : Nat) (h : Nat) (j : Int) : Prop := h = wh ∨ ((∃ i, h = B0 i) ∧ ¬ (h = B0 600 ∧ j = 1) ∧ ¬ h = B0 408)
def eD (E : Nat → Nat) (wh : Nat) : Prop := ∀ i, E i ≠ wh ∧ ∀ k, E i ≠ B0 k
theorem eD.no (h : eD E wh) (i : Nat) (j : Int) : ¬ PBw wh (E i) j := fun z => z.elim (h i).1 (fun ⟨⟨k, e⟩, _⟩ => (h i).2 k e)
theorem PBw_o {x i : Nat} {j : Int} (e : x = B0 i) (h1 : i ≠ 600) (h2 : i ≠ 408) : (∃ i, x = B0 i) ∧ ¬ (x = B0 600 ∧ j = 1) ∧ ¬ x = B0 408 := ⟨⟨i, e⟩, fun z => h1 (B0_inj _ _ (e.symm.trans z.1)), fun z => h2 (B0_inj _ _ (e.symm.trans z))⟩
theorem tFr_w {σ1 : zMem} (f : zFr (tFr wh) σ σ1) : zFr (PBw wh) σ σ1 := f.wk fun x j q => q.imp id fun q => q.elim (fun q => PBw_o (i := 0) q.1 (by omega) (by omega)) (fun q => PBw_o (i := 10) q (by omega) (by omega))
theorem PLc_w {x : Nat} {j : Int} (h : PLc B0 x j) : PBw wh x j := Or.inr (by
  rcases h with h | ⟨i, a, b, e⟩ | ⟨i, a, b, e⟩ | h
  · rcases h with h | h
    · rcases h with h | ⟨i, a, b, e⟩
      · exact PBw_o (i := 20) h.1 (by omega) (by omega)
      · exact PBw_o e (by omega) (by omega)
    · exact PBw_o (i := 0) h.1 (by omega) (by omega)
  · exact PBw_o e (by omega) (by omega)
  · exact PBw_o e (by omega) (by omega)
  · exact ⟨⟨600, h.1⟩, fun z => by have := h.2; have := z.2; omega, fun z => by have := B0_inj _ _ (h.1.symm.trans z); omega⟩)
theorem zt_L_withI {l : List Nat} {i : Nat} {z : Int} (hG : zOS G) (hi : i < 59) (hS : pSh σ) (hT : tI l wh σ) (z0 : 0 ≤ z) (z1 : z ≤ 9999) (h7 : l.length + zsl i + 4 ≤ 700) (hz : wh < zbg) : zE G mL_with (d + 9) [zR (B0 0), zR wh, zR (zbg + i), zI z] σ (fun ro σ1 => ro = .inl none ∧ zFr (tFr wh) σ σ1 ∧ tI (l ++ sN i ++ dg z.toNat) wh σ1) := by
  obtain ⟨v, e⟩ := Int.eq_ofNat_of_zero_le z0
  subst e
  exact zt_L_with hG hi hS hT (by omega) h7 hz
def tS4 (N : Int → Int) (s : Nat) : Nat → List Nat
  | 0 => sN 32
  | k + 1 => tS4 N s k ++ sN 31 ++ dg (mS N s k).toNat
def tF3 (N : Int → Int) (f : Nat) : Nat → List Nat
  | 0 => sN 33
  | k + 1 => tF3 N f k ++ sN 31 ++ dg (mF N f k).toNat
theorem dg_4 (v : Nat) : (dg v).length ≤ 4 ∧ (v < 10 → (dg v).length ≤ 1) := by
  rw [dg_n]
  refine ⟨(nd_b v).2, fun h => ?_⟩
  unfold nd
  rw [if_pos h]
  omega
theorem tH_l {a : Nat} : (tH N a).length ≤ 16 * a := by
  induction a with
  | zero => exact Nat.le_refl _
  | succ a ih =>
    have e1 := (dg_4 (mH N a 0).toNat).1
    have e2 := (dg_4 (mH N a 1).toNat).1
    show (tH N a ++ clH _ _).length ≤ _
    unfold clH
    simp only [List.length_append, sN_n, List.length_singleton]
    rw [show zsl 30 = 6 from rfl, show zsl 31 = 1 from rfl]
    omega
theorem tSn_l {b : Nat} : (tSn N b).length ≤ 27 * b := by
  induction b with
  | zero => exact Nat.le_refl _
  | succ b ih =>
    have e1 := (dg_4 (mS N b 0).toNat).1
    have e2 := (dg_4 (mS N b 1).toNat).1
    have e3 := (dg_4 (mS N b 2).toNat).1
    have e4 := (dg_4 (mS N b 3).toNat).1
    show (tSn N b ++ clSc _ _ _ _).length ≤ _
    unfold clSc
    simp only [List.length_append, sN_n, List.length_singleton]
    rw [show zsl 32 = 6 from rfl, show zsl 31 = 1 from rfl]
    omega
theorem tS4_l {s k : Nat} : (tS4 N s k).length ≤ 6 + 5 * k := by
  induction k with
  | zero => exact Nat.le_refl _
  | succ k ih =>
    have e1 := (dg_4 (mS N s k).toNat).1
    show (tS4 N s k ++ sN 31 ++ dg _).length ≤ _
    simp only [List.length_append, sN_n]
    rw [show zsl 31 = 1 from rfl]
    omega
theorem tF3_l {s k : Nat} : (tF3 N s k).length ≤ 4 + 5 * k := by
  induction k with
  | zero => exact Nat.le_refl _
  | succ k ih =>
    have e1 := (dg_4 (mF N s k).toNat).1
    show (tF3 N s k ++ sN 31 ++ dg _).length ≤ _
    simp only [List.length_append, sN_n]
    rw [show zsl 31 = 1 from rfl]
    omega
theorem tT_l {u : Nat → Nat} {k : Nat} : (tT u k).length ≤ 5 * k := by
  induction k with
  | zero => exact Nat.le_refl _
  | succ k ih =>
    have e1 := (dg_4 (u k)).1
    show (tT u k ++ sN 31 ++ dg _).length ≤ _
    simp only [List.length_append, sN_n]
    rw [show zsl 31 = 1 from rfl]
    omega
theorem tPr_l (hN : dN N) {f k : Nat} (hf : (f : Int) < N 2) (hk : (k : Int) ≤ N 0 + 1) : (tPr N f k).length ≤ 17 * k := by
  have n := hN.1
  induction k with
  | zero => exact Nat.le_refl _
  | succ k ih =>
    have i2 := ih (by omega)
    have hP := hN.2.2.2.2.1 f k (by omega) (by omega) (by omega) (by omega)
    have e1 := (dg_4 f).2 (by omega)
    have e2 := (dg_4 (N (154 + 5 * (f : Int) + (k : Int))).toNat).2 (by omega)
    have e3 := (dg_4 (k - 1)).2 (by omega)
    show (tPr N f k ++ (if _ then [] else if _ then clP0 _ _ else clP _ _ _)).length ≤ _
    split
    · rw [List.append_nil]; omega
    · split
      · unfold clP0
        simp only [List.length_append, sN_n, List.length_singleton]
        rw [show zsl 34 = 7 from rfl, show zsl 31 = 1 from rfl, show zsl 35 = 6 from rfl]
        omega
      · unfold clP
        simp only [List.length_append, sN_n, List.length_singleton]
        rw [show zsl 34 = 7 from rfl, show zsl 31 = 1 from rfl]
        omega
theorem tFm_l (hN : dN N) {c : Nat} (hc : (c : Int) ≤ N 2) : (tFm N c).length ≤ 108 * c := by
  have n := hN.1
  induction c with
  | zero => exact Nat.le_refl _
  | succ c ih =>
    have i2 := ih (by omega)
    have hF := hN.2.2.2.1 c (by omega) (by omega)
    have e1 := (dg_4 (mF N c 0).toNat).1
    have e2 := (dg_4 (mF N c 1).toNat).1
    have e3 := (dg_4 (mF N c 2).toNat).1
    have e4 := tT_l (u := uT N c) (k := (mF N c 3).toNat)
    have e5 := tPr_l hN (f := c) (k := (N 0).toNat + 1) (by omega) (by omega)
    show (tFm N c ++ clF _ _ _ _ _ ++ tPr N c _).length ≤ _
    unfold clF
    simp only [List.length_append, sN_n, List.length_singleton]
    rw [show zsl 33 = 4 from rfl, show zsl 31 = 1 from rfl]
    omega
theorem clF_e {x3 : Nat} : clF (mF N x3 0).toNat (mF N x3 1).toNat (mF N x3 2).toNat (uT N x3) (mF N x3 3).toNat = tF3 N x3 3 ++ tT (uT N x3) (mF N x3 3).toNat ++ [59] := rfl
theorem clF_l {x3 : Nat} (h : mF N x3 3 ≤ 4) : (clF (mF N x3 0).toNat (mF N x3 1).toNat (mF N x3 2).toNat (uT N x3) (mF N x3 3).toNat).length ≤ 40 := by
  have e1 := (dg_4 (mF N x3 0).toNat).1
  have e2 := (dg_4 (mF N x3 1).toNat).1
  have e3 := (dg_4 (mF N x3 2).toNat).1
  have e4 := tT_l (u := uT N x3) (k := (mF N x3 3).toNat)
  unfold clF
  simp only [List.length_append, sN_n, List.length_singleton]
  rw [show zsl 33 = 4 from rfl, show zsl 31 = 1 from rfl]
  omega
theorem s4_b {x2 y2 : Nat} (h : 0 ≤ mS N x2 0 ∧ mS N x2 0 < N 0 ∧ 1 ≤ mS N x2 1 ∧ mS N x2 1 ≤ 60 ∧ 1 ≤ mS N x2 2 ∧ mS N x2 2 ≤ 6 ∧ 0 ≤ mS N x2 3 ∧ mS N x2 3 ≤ 199 ∧ Q0) (hy : y2 < 4) (h3 : N 0 ≤ 3) : 0 ≤ mS N x2 y2 ∧ mS N x2 y2 ≤ 9999 := by
  have hk4 : y2 = 0 ∨ y2 = 1 ∨ y2 = 2 ∨ y2 = 3 := by omega
  rcases hk4 with e | e | e | e <;> subst e
  · exact ⟨show 0 ≤ mS N x2 0 by omega, show mS N x2 0 ≤ 9999 by omega⟩
  · exact ⟨show 0 ≤ mS N x2 1 by omega, show mS N x2 1 ≤ 9999 by omega⟩
  · exact ⟨show 0 ≤ mS N x2 2 by omega, show mS N x2 2 ≤ 9999 by omega⟩
  · exact ⟨show 0 ≤ mS N x2 3 by omega, show mS N x2 3 ≤ 9999 by omega⟩
theorem f3_b {x2 y2 : Nat} (h : 0 ≤ mF N x2 0 ∧ mF N x2 0 ≤ 399 ∧ 0 ≤ mF N x2 1 ∧ mF N x2 1 ≤ 100 ∧ 0 ≤ mF N x2 2 ∧ mF N x2 2 ≤ 3999 ∧ Q0) (hy : y2 < 3) : 0 ≤ mF N x2 y2 ∧ mF N x2 y2 ≤ 9999 := by
  have hk4 : y2 = 0 ∨ y2 = 1 ∨ y2 = 2 := by omega
  rcases hk4 with e | e | e <;> subst e
  · exact ⟨show 0 ≤ mF N x2 0 by omega, show mF N x2 0 ≤ 9999 by omega⟩
  · exact ⟨show 0 ≤ mF N x2 1 by omega, show mF N x2 1 ≤ 9999 by omega⟩
  · exact ⟨show 0 ≤ mF N x2 2 by omega, show mF N x2 2 ≤ 9999 by omega⟩
theorem sfx_self {l : List Nat} : sfx (fun j => ((l.getD j.toNat 0 : Nat) : Int)) l.length 0 l := ⟨Nat.zero_add _, fun k _ => by
  show ((l.getD ((0 + k : Nat) : Int).toNat 0 : Nat) : Int) = _
  rw [Int.toNat_natCast, Nat.zero_add]⟩
theorem tbg_L {t : Int → Int} {L : Nat} : tk t L L = 0 := by
  have e : tbg t L L = L := zrun_e (fun z => by omega)
  unfold tk
  rw [e, if_neg (by omega)]
/-- what a list, told, makes -/
def pTl (N : Int → Int) (E : Nat → Nat) (wh : Nat) (σ : zMem) (ro : zRes) (σ1 : zMem) : Prop := ro = .inl (some (zI (N 1))) ∧ zFr (PBw wh) σ σ1 ∧ tI [] wh σ1 ∧ eO N σ1 E ∧ zia σ1 (B0 600) ((2 : Nat) : Int) = 0 ∧ zia σ1 (B0 600) ((4 : Nat) : Int) = 0 ∧ ∃ D, ldV D ∧ cR (ldN D) σ1 B0 ∧ iV N (N 0).toNat (N 1).toNat (N 2).toNat D ∧ iP N (N 2).toNat 0 D ∧ D 4 = N 4
theorem tI_end {l : List Nat} {σ1 : zMem} (h : eI l wh σ) (f : zFr (PLc B0) σ σ1) (e : zia σ1 (B0 0) ((1 : Nat) : Int) = 0) (hw0 : ∀ k, B0 k ≠ wh) : tI [] wh σ1 := by
  have ia : ∀ j, zia σ1 wh j = zia σ wh j := fun j => f.2.2.2.2.2 _ _ (fun z => (PLc_w (wh := wh + 1) z).elim (by omega) (fun ⟨⟨k, e⟩, _⟩ => hw0 k e.symm))
  refine ⟨by rw [f.2.1]; exact h.1, ⟨h.2.1.1, by rw [f.1]; exact h.2.1.2⟩, ⟨fun x hx => absurd hx List.not_mem_nil, Nat.zero_le _⟩, ?_, e, fun j hj => absurd hj (Nat.not_lt_zero _), fun k hk => ?_⟩
  · rw [ia]; exact h.2.2.1 5 (by omega)
  · rw [ia, h.2.2.1 k (by omega), pkB_congr (g := fun _ => 0) (fun i hi => tg_out (Nat.zero_le _))]; rfl
set_option maxRecDepth 20000 in
theorem zt_L_tell  (hGd : zGd G) (hG1 : zOS G) (hS : pSh σ) (hT : tI [] wh σ) (hE : eO N σ E) (hN : dN N) (hD : eD E wh) (hz : wh < zbg) : zE G mL_tell (d + 13) [zR (B0 0), zR wh, zR (E 0)] σ (pTl N E wh σ) := by
  refine zE_of rfl (by simp [zcat]) (Nat.le_of_ble_eq_true rfl) ?_
  show zF G mL_tell (d + 13) 0 [(0, zR (B0 0)), (1, zR wh), (2, zR (E 0))] [] σ _
  have hn := hN.1
  have hw0 : ∀ k, B0 k ≠ wh := fun k => B0_w hT.2.1.1 hz k
  refine zF_iconst 1 dL_tell_0 rfl ?_
  refine zF_istore_n 2 (ls' := [(3, zI 0), (0, zR (B0 0)), (1, zR wh), (2, zR (E 0))]) dL_tell_1 rfl (by decide) rfl ?_
  refine zF_locs (ls' := [(3, zI ((0 : Nat) : Int)), (0, zR (B0 0)), (1, zR wh), (2, zR (E 0))]) ⟨zlI rfl (by first | rfl | omega | (push_cast; omega) | exact congrArg (_ + ·) (zbT (by assumption)) | exact congrArg (_ + ·) (zbF (by assumption)) | exact congrArg (_ + ·) (zbT (by omega)) | exact congrArg (_ + ·) (zbF (by omega)) | exact congrArg (_ + ·) (if_pos (by omega)).symm | exact congrArg (_ + ·) (if_neg (by omega)).symm | exact (if_pos (by omega)).symm | exact (if_neg (by omega)).symm | exact zsub_s (if_pos (by omega)).symm | exact zsub_s0 (if_neg (by omega)).symm | exact zadd0 (if_neg (by omega)).symm | exact zadd0 (zbF (by omega)) | exact (Int.sub_zero _).symm), rfl, rfl, rfl, trivial⟩ ?_
  refine zF_while (X := Nat) (fun x => (N 0).toNat - x) (fun x σ2 => ((x : Nat) : Int) ≤ N 0 ∧ pSh σ2 ∧ zFr (PBw wh) σ σ2 ∧ tI (tH N x) wh σ2 ∧ eO N σ2 E) (fun x => [(3, zI ((x : Nat) : Int)), (0, zR (B0 0)), (1, zR wh), (2, zR (E 0))]) ?_ 0 σ (⟨by omega, hS, zFr.rf, (hT), hE⟩)
  intro x σ2 hI2 ih2
  show zF G mL_tell (d + 13) 2 [(3, zI ((x : Nat) : Int)), (0, zR (B0 0)), (1, zR wh), (2, zR (E 0))] [] σ2 _
  obtain ⟨hx2, SL2, FL2, TL2, EL2⟩ := hI2
  change tI (tH N x) wh σ2 at TL2
  have hlH := tH_l (N := N) (a := x)
  refine zF_iload_n 3 dL_tell_2 rfl rfl ?_
  refine zF_aload_n 4 dL_tell_3 rfl rfl ?_
  refine zF_getIN 7 dL_tell_4 rfl gnL_31 (by decide) (by decide) EL2.k0 EL2.l0 EL2.i0 ?_
  refine zF_icmp_ge 53 10 dL_tell_7 rfl rfl (by first | decide | assumption | (constructor <;> omega)) (by first | decide | assumption | (constructor <;> omega)) (fun c1 => ?_) (fun c1 => ?_)
  · refine zF_iconst 54 dL_tell_53 rfl ?_
    refine zF_istore_n 55 (ls' := [(3, zI 0), (0, zR (B0 0)), (1, zR wh), (2, zR (E 0))]) dL_tell_54 rfl (by decide) rfl ?_
    refine zF_locs (ls' := [(3, zI ((0 : Nat) : Int)), (0, zR (B0 0)), (1, zR wh), (2, zR (E 0))]) ⟨zlI rfl (by first | rfl | omega | (push_cast; omega) | exact congrArg (_ + ·) (zbT (by assumption)) | exact congrArg (_ + ·) (zbF (by assumption)) | exact congrArg (_ + ·) (zbT (by omega)) | exact congrArg (_ + ·) (zbF (by omega)) | exact congrArg (_ + ·) (if_pos (by omega)).symm | exact congrArg (_ + ·) (if_neg (by omega)).symm | exact (if_pos (by omega)).symm | exact (if_neg (by omega)).symm | exact zsub_s (if_pos (by omega)).symm | exact zsub_s0 (if_neg (by omega)).symm | exact zadd0 (if_neg (by omega)).symm | exact zadd0 (zbF (by omega)) | exact (Int.sub_zero _).symm), rfl, rfl, rfl, trivial⟩ ?_
    refine zF_while (X := Nat) (fun x => (N 1).toNat - x) (fun x σ55 => ((x : Nat) : Int) ≤ N 1 ∧ pSh σ55 ∧ zFr (PBw wh) σ σ55 ∧ tI (tH N (N 0).toNat ++ tSn N x) wh σ55 ∧ eO N σ55 E) (fun x => [(3, zI ((x : Nat) : Int)), (0, zR (B0 0)), (1, zR wh), (2, zR (E 0))]) ?_ 0 σ2 (⟨by omega, SL2, FL2, (by have ex : x = (N 0).toNat := (by omega); subst ex; show tI (tH N (N 0).toNat ++ []) wh _; rw [List.append_nil]; exact TL2), EL2⟩)
    intro x2 σ55 hI55 ih55
    show zF G mL_tell (d + 13) 55 [(3, zI ((x2 : Nat) : Int)), (0, zR (B0 0)), (1, zR wh), (2, zR (E 0))] [] σ55 _
    obtain ⟨hx55, SL55, FL55, TL55, EL55⟩ := hI55
    change tI (tH N (N 0).toNat ++ tSn N x2) wh σ55 at TL55
    have hlH := tH_l (N := N) (a := (N 0).toNat)
    have hlS := tSn_l (N := N) (b := x2)
    refine zF_iload_n 56 dL_tell_55 rfl rfl ?_
    refine zF_aload_n 57 dL_tell_56 rfl rfl ?_
    refine zF_getIN 60 dL_tell_57 rfl gnL_55 (by decide) (by decide) EL55.k0 EL55.l0 EL55.i1 ?_
    refine zF_icmp_ge 114 63 dL_tell_60 rfl rfl (by first | decide | assumption | (constructor <;> omega)) (by first | decide | assumption | (constructor <;> omega)) (fun c2 => ?_) (fun c2 => ?_)
    · refine zF_iconst 115 dL_tell_114 rfl ?_
      refine zF_istore_n 116 (ls' := [(3, zI 0), (0, zR (B0 0)), (1, zR wh), (2, zR (E 0))]) dL_tell_115 rfl (by decide) rfl ?_
      refine zF_locs (ls' := [(3, zI ((0 : Nat) : Int)), (0, zR (B0 0)), (1, zR wh), (2, zR (E 0))]) ⟨zlI rfl (by first | rfl | omega | (push_cast; omega) | exact congrArg (_ + ·) (zbT (by assumption)) | exact congrArg (_ + ·) (zbF (by assumption)) | exact congrArg (_ + ·) (zbT (by omega)) | exact congrArg (_ + ·) (zbF (by omega)) | exact congrArg (_ + ·) (if_pos (by omega)).symm | exact congrArg (_ + ·) (if_neg (by omega)).symm | exact (if_pos (by omega)).symm | exact (if_neg (by omega)).symm | exact zsub_s (if_pos (by omega)).symm | exact zsub_s0 (if_neg (by omega)).symm | exact zadd0 (if_neg (by omega)).symm | exact zadd0 (zbF (by omega)) | exact (Int.sub_zero _).symm), rfl, rfl, rfl, trivial⟩ ?_
      refine zF_while (X := Nat) (fun x => (N 2).toNat - x) (fun x σ116 => ((x : Nat) : Int) ≤ N 2 ∧ pSh σ116 ∧ zFr (PBw wh) σ σ116 ∧ tI (tH N (N 0).toNat ++ tSn N (N 1).toNat ++ tFm N x) wh σ116 ∧ eO N σ116 E) (fun x => [(3, zI ((x : Nat) : Int)), (0, zR (B0 0)), (1, zR wh), (2, zR (E 0))]) ?_ 0 σ55 (⟨by omega, SL55, FL55, (by have ex : x2 = (N 1).toNat := (by omega); subst ex; show tI (tH N (N 0).toNat ++ tSn N (N 1).toNat ++ []) wh _; rw [List.append_nil]; exact TL55), EL55⟩)
      intro x3 σ116 hI116 ih116
      show zF G mL_tell (d + 13) 116 [(3, zI ((x3 : Nat) : Int)), (0, zR (B0 0)), (1, zR wh), (2, zR (E 0))] [] σ116 _
      obtain ⟨hx116, SL116, FL116, TL116, EL116⟩ := hI116
      change tI (tH N (N 0).toNat ++ tSn N (N 1).toNat ++ tFm N x3) wh σ116 at TL116
      have hlH := tH_l (N := N) (a := (N 0).toNat)
      have hlS := tSn_l (N := N) (b := (N 1).toNat)
      have hlF := tFm_l hN (c := x3) hx116
      refine zF_iload_n 117 dL_tell_116 rfl rfl ?_
      refine zF_aload_n 118 dL_tell_117 rfl rfl ?_
      refine zF_getIN 121 dL_tell_118 rfl gnL_39 (by decide) (by decide) EL116.k0 EL116.l0 EL116.i2 ?_
      refine zF_icmp_ge 305 124 dL_tell_121 rfl rfl (by first | decide | assumption | (constructor <;> omega)) (by first | decide | assumption | (constructor <;> omega)) (fun c3 => ?_) (fun c3 => ?_)
      · have ex3 : x3 = (N 2).toNat := by omega
        rw [ex3] at TL116 hlF
        have ldf := (dg_4 (N 4).toNat).1
        refine zF_aload_n 306 dL_tell_305 rfl rfl ?_
        refine zF_aload_n 307 dL_tell_306 rfl rfl ?_
        refine zF_ldcS 309 (i := 36) dL_tell_307 rfl rfl ?_
        refine zF_aload_n 310 dL_tell_309 rfl rfl ?_
        refine zF_getIN 313 dL_tell_310 rfl gnL_58 (by decide) (by decide) EL116.k0 EL116.l0 EL116.i4 ?_
        refine zF_callS 316 (d2 := (d + 12)) (as := [zR (B0 0), zR wh, zR (zbg + 36), zI (N 4)]) dL_tell_313 rfl kL_80 sL_with (Nat.le_refl _) rfl rfl (Nat.le_of_ble_eq_true rfl) (zE.mono (zt_L_withI (i := 36) hG1 (by decide) SL116 TL116 (by omega) (by omega) (by have hzl : zsl 36 = 4 := rfl; have e31 : zsl 31 = 1 := rfl; have e32 : zsl 32 = 6 := rfl; have e33 : zsl 33 = 4 := rfl; have e30 : zsl 30 = 6 := rfl; have e34 : zsl 34 = 7 := rfl; have e35 : zsl 35 = 6 := rfl; (try simp only [List.length_append, List.length_singleton, sN_n]); omega) hz) fun ro σs313 hh313 => ?_)
        obtain ⟨er313, fr313, T313⟩ := hh313
        subst er313
        refine ⟨fr313.1, ?_⟩
        have S313 := pSh.fr SL116 fr313
        have F313 := FL116.tr (tFr_w fr313)
        have hE313 := EL116.fr (tFr_w fr313) hD.no
        show zF G mL_tell (d + 13) 316 [(3, zI ((x3 : Nat) : Int)), (0, zR (B0 0)), (1, zR wh), (2, zR (E 0))] [] σs313 _
        refine zF_aload_n 317 dL_tell_316 rfl rfl ?_
        refine zF_aload_n 318 dL_tell_317 rfl rfl ?_
        refine zF_bipush 320 dL_tell_318 rfl (by decide) ?_
        refine zF_callS 323 (d2 := (d + 12)) (as := [zR (B0 0), zR wh, zI 59]) dL_tell_320 rfl kL_14 sL_add (Nat.le_refl _) rfl rfl (Nat.le_of_ble_eq_true rfl) (zE.mono (zt_L_add (b := 59) S313 T313 (by decide) (by have e31 : zsl 31 = 1 := rfl; have e32 : zsl 32 = 6 := rfl; have e33 : zsl 33 = 4 := rfl; have e30 : zsl 30 = 6 := rfl; have e34 : zsl 34 = 7 := rfl; have e35 : zsl 35 = 6 := rfl; have e36 : zsl 36 = 4 := rfl; (try simp only [List.length_append, List.length_singleton, sN_n]); omega) hz) fun ro σs320 hh320 => ?_)
        obtain ⟨er320, fr320, T320⟩ := hh320
        subst er320
        refine ⟨fr320.1, ?_⟩
        have S320 := pSh.fr S313 fr320
        have F320 := F313.tr (tFr_w fr320)
        have hE320 := hE313.fr (tFr_w fr320) hD.no
        show zF G mL_tell (d + 13) 323 [(3, zI ((x3 : Nat) : Int)), (0, zR (B0 0)), (1, zR wh), (2, zR (E 0))] [] σs320 _
        refine zF_aload_n 324 dL_tell_323 rfl rfl ?_
        refine zF_aload_n 325 dL_tell_324 rfl rfl ?_
        refine zF_aload_n 326 dL_tell_325 rfl rfl ?_
        refine zF_callS 329 (d2 := (d + 12)) (as := [zR (B0 0), zR wh]) dL_tell_326 rfl kL_94 sL_end (Nat.le_refl _) rfl rfl (Nat.le_of_ble_eq_true rfl) (zE.mono (zt_L_end S320 T320 hz) fun ro σe hh326 => ?_)
        obtain ⟨er326, fr326, Ie⟩ := hh326
        subst er326
        refine ⟨fr326.1, ?_⟩
        have S326 := pSh.fr S320 fr326
        have F326 := F320.tr (tFr_w fr326)
        have hE326 := hE320.fr (tFr_w fr326) hD.no
        have elst : tH N (N 0).toNat ++ tSn N (N 1).toNat ++ tFm N (N 2).toNat ++ sN 36 ++ dg (N 4).toNat ++ [59] = tAll N := by unfold tAll clE; simp only [List.append_assoc]
        have Tx := T320.2.2.1
        rw [elst] at Tx Ie ⊢
        show zF G mL_tell (d + 13) 329 [(3, zI ((x3 : Nat) : Int)), (0, zR (B0 0)), (1, zR wh), (2, zR (E 0))] [zI (((tAll N).length : Nat) : Int), zR (B0 0)] σe _
        obtain ⟨cb, eb1, eb2, eb3, eb4⟩ := Ie.2.2.2
        refine zF_callV 332 (d2 := (d + 12)) (as := [zI (((tAll N).length : Nat) : Int)]) dL_tell_329 rfl kL_98 iX11_load (ci := 11) rfl eX11_load (Nat.le_refl _) (show pSh σe from S326).bk (show pSh σe from S326).bl rfl rfl (Nat.le_of_ble_eq_true rfl) (zE.mono (zt_X11_load (t := fun j => (((tAll N).getD j.toNat 0 : Nat) : Int)) (L := (tAll N).length) (f := fun _ => 0) hGd hG1 S326.cO S326.cCt (S326.tk (by omega) (fun j j0 j1 => ?_)) S326.cHs eb1 (by omega) (by omega) (fun _ => by decide)) fun ro σl hl => ?_)
        · obtain ⟨jn, ej⟩ := Int.eq_ofNat_of_zero_le j0
          subst ej
          have := tg_lt Tx.1 jn
          refine ⟨(eb4 jn (by omega)).trans ?_, ?_, ?_⟩
          · show _ = (((tAll N).getD ((jn : Int)).toNat 0 : Nat) : Int)
            rw [Int.toNat_natCast]
          · show -128 ≤ (((tAll N).getD ((jn : Int)).toNat 0 : Nat) : Int)
            omega
          · show (((tAll N).getD ((jn : Int)).toNat 0 : Nat) : Int) < 128
            rw [Int.toNat_natCast]
            omega
        obtain ⟨kk, hk, fl, c1, c2, hor⟩ := hl
        obtain ⟨Df, rdf, ivf, ipf, d4f⟩ := rd_all (t := fun j => (((tAll N).getD j.toNat 0 : Nat) : Int)) (L := (tAll N).length) hN (f := fun _ => 0) (fun _ => by decide) sfx_self
        have ef := rdC_ld rdf ((tKd_0 rfl).trans tbg_L) hk
        rw [ef] at hor c2
        obtain ⟨_, er, vD, cD, h2, h4⟩ := hor.resolve_right (fun z => z.1 rfl)
        subst er
        refine ⟨fl.1, ?_⟩
        have e1 : Df 1 = N 1 := ivf.1.2.1.trans (Int.toNat_of_nonneg (by omega))
        show zF G mL_tell (d + 13) 332 [(3, zI ((x3 : Nat) : Int)), (0, zR (B0 0)), (1, zR wh), (2, zR (E 0))] [zI (Df 1)] σl _
        rw [e1]
        exact zF_ireturn dL_tell_332 rfl (⟨rfl, F326.tr (fl.wk fun _ _ q => PLc_w q), tI_end Ie fl c1 hw0, hE326.fr (fl.wk fun _ _ q => PLc_w q) hD.no, h2, h4, Df, vD, cD, ivf, ipf, d4f⟩)
      · refine zF_aload_n 125 dL_tell_124 rfl rfl ?_
        refine zF_aload_n 126 dL_tell_125 rfl rfl ?_
        refine zF_ldcS 128 (i := 33) dL_tell_126 rfl rfl ?_
        refine zF_callS 131 (d2 := (d + 12)) (as := [zR (B0 0), zR wh, zR (zbg + 33)]) dL_tell_128 rfl kL_71 sL_word (Nat.le_refl _) rfl rfl (Nat.le_of_ble_eq_true rfl) (zE.mono (zt_L_word (i := 33) hG1 (by decide) SL116 TL116 (by have hzl : zsl 33 = 4 := rfl; have e34 : zsl 34 = 7 := rfl; (try simp only [List.length_append, List.length_singleton, sN_n]); omega) hz) fun ro σs128 hh128 => ?_)
        obtain ⟨er128, fr128, T128⟩ := hh128
        subst er128
        refine ⟨fr128.1, ?_⟩
        have S128 := pSh.fr SL116 fr128
        have F128 := FL116.tr (tFr_w fr128)
        have hE128 := EL116.fr (tFr_w fr128) hD.no
        show zF G mL_tell (d + 13) 131 [(3, zI ((x3 : Nat) : Int)), (0, zR (B0 0)), (1, zR wh), (2, zR (E 0))] [] σs128 _
        refine zF_iconst 132 dL_tell_131 rfl ?_
        refine zF_istore 134 (ls' := [(4, zI 0), (3, zI ((x3 : Nat) : Int)), (0, zR (B0 0)), (1, zR wh), (2, zR (E 0))]) dL_tell_132 rfl (by decide) rfl ?_
        refine zF_locs (ls' := [(4, zI ((0 : Nat) : Int)), (3, zI ((x3 : Nat) : Int)), (0, zR (B0 0)), (1, zR wh), (2, zR (E 0))]) ⟨zlI rfl (by first | rfl | omega | (push_cast; omega) | exact congrArg (_ + ·) (zbT (by assumption)) | exact congrArg (_ + ·) (zbF (by assumption)) | exact congrArg (_ + ·) (zbT (by omega)) | exact congrArg (_ + ·) (zbF (by omega)) | exact congrArg (_ + ·) (if_pos (by omega)).symm | exact congrArg (_ + ·) (if_neg (by omega)).symm | exact (if_pos (by omega)).symm | exact (if_neg (by omega)).symm | exact zsub_s (if_pos (by omega)).symm | exact zsub_s0 (if_neg (by omega)).symm | exact zadd0 (if_neg (by omega)).symm | exact zadd0 (zbF (by omega)) | exact (Int.sub_zero _).symm), rfl, rfl, rfl, rfl, trivial⟩ ?_
        refine zF_while (X := Nat) (fun x => ((3 : Int)).toNat - x) (fun x σ134 => ((x : Nat) : Int) ≤ (3 : Int) ∧ pSh σ134 ∧ zFr (PBw wh) σ σ134 ∧ tI (tH N (N 0).toNat ++ tSn N (N 1).toNat ++ tFm N x3 ++ tF3 N x3 x) wh σ134 ∧ eO N σ134 E) (fun x => [(4, zI ((x : Nat) : Int)), (3, zI ((x3 : Nat) : Int)), (0, zR (B0 0)), (1, zR wh), (2, zR (E 0))]) ?_ 0 σs128 (⟨by omega, S128, F128, (T128), hE128⟩)
        intro y3 σ134 hI134 ih134
        show zF G mL_tell (d + 13) 134 [(4, zI ((y3 : Nat) : Int)), (3, zI ((x3 : Nat) : Int)), (0, zR (B0 0)), (1, zR wh), (2, zR (E 0))] [] σ134 _
        obtain ⟨hx134, SL134, FL134, TL134, EL134⟩ := hI134
        change tI (tH N (N 0).toNat ++ tSn N (N 1).toNat ++ tFm N x3 ++ tF3 N x3 y3) wh σ134 at TL134
        have hf3 := hN.2.2.2.1 x3 (by omega) (by omega)
        have hl4 := tF3_l (N := N) (s := x3) (k := y3)
        refine zF_iload 136 dL_tell_134 rfl rfl ?_
        refine zF_iconst 137 dL_tell_136 rfl ?_
        refine zF_icmp_ge 162 140 dL_tell_137 rfl rfl (by first | decide | assumption | (constructor <;> omega)) (by first | decide | assumption | (constructor <;> omega)) (fun c4 => ?_) (fun c4 => ?_)
        · refine zF_iconst 163 dL_tell_162 rfl ?_
          refine zF_istore 165 (ls' := [(4, zI 0), (3, zI ((x3 : Nat) : Int)), (0, zR (B0 0)), (1, zR wh), (2, zR (E 0))]) dL_tell_163 rfl (by decide) rfl ?_
          refine zF_locs (ls' := [(4, zI ((0 : Nat) : Int)), (3, zI ((x3 : Nat) : Int)), (0, zR (B0 0)), (1, zR wh), (2, zR (E 0))]) ⟨zlI rfl (by first | rfl | omega | (push_cast; omega) | exact congrArg (_ + ·) (zbT (by assumption)) | exact congrArg (_ + ·) (zbF (by assumption)) | exact congrArg (_ + ·) (zbT (by omega)) | exact congrArg (_ + ·) (zbF (by omega)) | exact congrArg (_ + ·) (if_pos (by omega)).symm | exact congrArg (_ + ·) (if_neg (by omega)).symm | exact (if_pos (by omega)).symm | exact (if_neg (by omega)).symm | exact zsub_s (if_pos (by omega)).symm | exact zsub_s0 (if_neg (by omega)).symm | exact zadd0 (if_neg (by omega)).symm | exact zadd0 (zbF (by omega)) | exact (Int.sub_zero _).symm), rfl, rfl, rfl, rfl, trivial⟩ ?_
          refine zF_while (X := Nat) (fun x => (mF N x3 3).toNat - x) (fun x σ165 => ((x : Nat) : Int) ≤ mF N x3 3 ∧ pSh σ165 ∧ zFr (PBw wh) σ σ165 ∧ tI (tH N (N 0).toNat ++ tSn N (N 1).toNat ++ tFm N x3 ++ tF3 N x3 3 ++ tT (uT N x3) x) wh σ165 ∧ eO N σ165 E) (fun x => [(4, zI ((x : Nat) : Int)), (3, zI ((x3 : Nat) : Int)), (0, zR (B0 0)), (1, zR wh), (2, zR (E 0))]) ?_ 0 σ134 (⟨by omega, SL134, FL134, (by have ey : y3 = 3 := (by omega); subst ey; show tI (_ ++ []) wh _; rw [List.append_nil]; exact TL134), EL134⟩)
          intro u3 σ165 hI165 ih165
          show zF G mL_tell (d + 13) 165 [(4, zI ((u3 : Nat) : Int)), (3, zI ((x3 : Nat) : Int)), (0, zR (B0 0)), (1, zR wh), (2, zR (E 0))] [] σ165 _
          obtain ⟨hx165, SL165, FL165, TL165, EL165⟩ := hI165
          change tI (tH N (N 0).toNat ++ tSn N (N 1).toNat ++ tFm N x3 ++ tF3 N x3 3 ++ tT (uT N x3) u3) wh σ165 at TL165
          have hf3 := hN.2.2.2.1 x3 (by omega) (by omega)
          have hl3 := tF3_l (N := N) (s := x3) (k := 3)
          have hlu := tT_l (u := uT N x3) (k := u3)
          refine zF_iload 167 dL_tell_165 rfl rfl ?_
          refine zF_aload_n 168 dL_tell_167 rfl rfl ?_
          refine zF_getRN 171 dL_tell_168 rfl gnL_42 EL165.k0 EL165.l0 (EL165.f 8 6 6 (by decide)).1 ?_
          refine zF_iload_n 172 dL_tell_171 rfl rfl ?_
          refine zF_aaldA 173 dL_tell_172 rfl (EL165.f 8 6 6 (by decide)).2.2 (EL165.f 8 6 6 (by decide)).2.1 (by omega) (by omega) (EL165.r8 _ (by omega) (by omega)).1 ?_
          refine zF_iconst 174 dL_tell_173 rfl ?_
          refine zF_iaload 175 dL_tell_174 rfl (EL165.r8 _ (by omega) (by omega)).2.2 (EL165.r8 _ (by omega) (by omega)).2.1 (by omega) (by omega) (EL165.c8 _ _ (by omega) (by omega) (by omega) (by omega)) ?_
          refine zF_icmp_ge 202 178 dL_tell_175 rfl rfl (by first | decide | assumption | (constructor <;> omega)) (by first | decide | assumption | (constructor <;> omega)) (fun c5 => ?_) (fun c5 => ?_)
          · refine zF_aload_n 203 dL_tell_202 rfl rfl ?_
            refine zF_aload_n 204 dL_tell_203 rfl rfl ?_
            refine zF_bipush 206 dL_tell_204 rfl (by decide) ?_
            refine zF_callS 209 (d2 := (d + 12)) (as := [zR (B0 0), zR wh, zI 59]) dL_tell_206 rfl kL_14 sL_add (Nat.le_refl _) rfl rfl (Nat.le_of_ble_eq_true rfl) (zE.mono (zt_L_add (b := 59) SL165 TL165 (by decide) (by have e31 : zsl 31 = 1 := rfl; have e32 : zsl 32 = 6 := rfl; have e33 : zsl 33 = 4 := rfl; have e30 : zsl 30 = 6 := rfl; have e34 : zsl 34 = 7 := rfl; have e35 : zsl 35 = 6 := rfl; have e36 : zsl 36 = 4 := rfl; (try simp only [List.length_append, List.length_singleton, sN_n]); omega) hz) fun ro σs206 hh206 => ?_)
            obtain ⟨er206, fr206, T206⟩ := hh206
            subst er206
            refine ⟨fr206.1, ?_⟩
            have S206 := pSh.fr SL165 fr206
            have F206 := FL165.tr (tFr_w fr206)
            have hE206 := EL165.fr (tFr_w fr206) hD.no
            show zF G mL_tell (d + 13) 209 [(4, zI ((u3 : Nat) : Int)), (3, zI ((x3 : Nat) : Int)), (0, zR (B0 0)), (1, zR wh), (2, zR (E 0))] [] σs206 _
            refine zF_iconst 210 dL_tell_209 rfl ?_
            refine zF_istore 212 (ls' := [(4, zI 0), (3, zI ((x3 : Nat) : Int)), (0, zR (B0 0)), (1, zR wh), (2, zR (E 0))]) dL_tell_210 rfl (by decide) rfl ?_
            refine zF_locs (ls' := [(4, zI ((0 : Nat) : Int)), (3, zI ((x3 : Nat) : Int)), (0, zR (B0 0)), (1, zR wh), (2, zR (E 0))]) ⟨zlI rfl (by first | rfl | omega | (push_cast; omega) | exact congrArg (_ + ·) (zbT (by assumption)) | exact congrArg (_ + ·) (zbF (by assumption)) | exact congrArg (_ + ·) (zbT (by omega)) | exact congrArg (_ + ·) (zbF (by omega)) | exact congrArg (_ + ·) (if_pos (by omega)).symm | exact congrArg (_ + ·) (if_neg (by omega)).symm | exact (if_pos (by omega)).symm | exact (if_neg (by omega)).symm | exact zsub_s (if_pos (by omega)).symm | exact zsub_s0 (if_neg (by omega)).symm | exact zadd0 (if_neg (by omega)).symm | exact zadd0 (zbF (by omega)) | exact (Int.sub_zero _).symm), rfl, rfl, rfl, rfl, trivial⟩ ?_
            refine zF_while (X := Nat) (fun x => (N 0 + 1).toNat - x) (fun x σ212 => ((x : Nat) : Int) ≤ N 0 + 1 ∧ pSh σ212 ∧ zFr (PBw wh) σ σ212 ∧ tI (tH N (N 0).toNat ++ tSn N (N 1).toNat ++ tFm N x3 ++ clF (mF N x3 0).toNat (mF N x3 1).toNat (mF N x3 2).toNat (uT N x3) (mF N x3 3).toNat ++ tPr N x3 x) wh σ212 ∧ eO N σ212 E) (fun x => [(4, zI ((x : Nat) : Int)), (3, zI ((x3 : Nat) : Int)), (0, zR (B0 0)), (1, zR wh), (2, zR (E 0))]) ?_ 0 σs206 (⟨by omega, S206, F206, (by have eu : u3 = (mF N x3 3).toNat := (by omega); subst eu; show tI (tH N (N 0).toNat ++ tSn N (N 1).toNat ++ tFm N x3 ++ clF _ _ _ _ _ ++ []) wh _; rw [List.append_nil, clF_e]; have q := T206; simp only [List.append_assoc] at q ⊢; exact q), hE206⟩)
            intro p3 σ212 hI212 ih212
            show zF G mL_tell (d + 13) 212 [(4, zI ((p3 : Nat) : Int)), (3, zI ((x3 : Nat) : Int)), (0, zR (B0 0)), (1, zR wh), (2, zR (E 0))] [] σ212 _
            obtain ⟨hx212, SL212, FL212, TL212, EL212⟩ := hI212
            change tI (tH N (N 0).toNat ++ tSn N (N 1).toNat ++ tFm N x3 ++ clF (mF N x3 0).toNat (mF N x3 1).toNat (mF N x3 2).toNat (uT N x3) (mF N x3 3).toNat ++ tPr N x3 p3) wh σ212 at TL212
            have hf3 := hN.2.2.2.1 x3 (by omega) (by omega)
            have hlc := clF_l (N := N) (x3 := x3) (by omega)
            have hlp := tPr_l hN (f := x3) (k := p3) (by omega) (by omega)
            have hpr : p3 ≤ (N 0).toNat → _ := fun hq => hN.2.2.2.2.1 x3 p3 (by omega) (by omega) (by omega) (by omega)
            refine zF_iload 214 dL_tell_212 rfl rfl ?_
            refine zF_aload_n 215 dL_tell_214 rfl rfl ?_
            refine zF_getIN 218 dL_tell_215 rfl gnL_31 (by decide) (by decide) EL212.k0 EL212.l0 EL212.i0 ?_
            refine zF_icmp_gt 299 221 dL_tell_218 rfl rfl (by first | decide | assumption | (constructor <;> omega)) (by first | decide | assumption | (constructor <;> omega)) (fun c6 => ?_) (fun c6 => ?_)
            · refine zF_iinc 302 (ls' := [(3, zI (((x3 : Nat) : Int) + 1)), (4, zI ((p3 : Nat) : Int)), (0, zR (B0 0)), (1, zR wh), (2, zR (E 0))]) dL_tell_299 rfl rfl rfl (by decide) rfl ?_
              refine zF_goto 116 dL_tell_302 rfl ?_
              exact zF_locs (ls' := [(3, zI (((x3 + 1) : Nat) : Int)), (0, zR (B0 0)), (1, zR wh), (2, zR (E 0))]) ⟨zlI rfl (by first | rfl | omega | (push_cast; omega) | exact congrArg (_ + ·) (zbT (by assumption)) | exact congrArg (_ + ·) (zbF (by assumption)) | exact congrArg (_ + ·) (zbT (by omega)) | exact congrArg (_ + ·) (zbF (by omega)) | exact congrArg (_ + ·) (if_pos (by omega)).symm | exact congrArg (_ + ·) (if_neg (by omega)).symm | exact (if_pos (by omega)).symm | exact (if_neg (by omega)).symm | exact zsub_s (if_pos (by omega)).symm | exact zsub_s0 (if_neg (by omega)).symm | exact zadd0 (if_neg (by omega)).symm | exact zadd0 (zbF (by omega)) | exact (Int.sub_zero _).symm), rfl, rfl, rfl, trivial⟩ (ih116 (x3 + 1) _ (by omega) (⟨by omega, SL212, FL212, (by have ey : p3 = (N 0).toNat + 1 := (by omega); subst ey; show tI (tH N (N 0).toNat ++ tSn N (N 1).toNat ++ (tFm N x3 ++ clF _ _ _ _ _ ++ tPr N x3 ((N 0).toNat + 1))) wh _; simp only [← List.append_assoc]; exact TL212), EL212⟩))
            · have hv3 := hpr (by omega)
              have e0 : mP N x3 ((p3 : Int) - 1) = N (154 + 5 * ((x3 : Nat) : Int) + ((p3 : Nat) : Int)) := (by unfold mP; congr 1; omega)
              refine zF_aload_n 222 dL_tell_221 rfl rfl ?_
              refine zF_getRN 225 dL_tell_222 rfl gnL_45 EL212.k0 EL212.l0 (EL212.f 9 6 6 (by decide)).1 ?_
              refine zF_iload_n 226 dL_tell_225 rfl rfl ?_
              refine zF_aaldA 227 dL_tell_226 rfl (EL212.f 9 6 6 (by decide)).2.2 (EL212.f 9 6 6 (by decide)).2.1 (by omega) (by omega) (EL212.r9 _ (by omega) (by omega)).1 ?_
              refine zF_iload 229 dL_tell_227 rfl rfl ?_
              refine zF_iaload 230 dL_tell_229 rfl (EL212.r9 _ (by omega) (by omega)).2.2 (EL212.r9 _ (by omega) (by omega)).2.1 (by omega) (by omega) (EL212.c9q _ _ (by omega) (by omega) (by omega) (by omega)) ?_
              refine zF_if_ne 236 233 dL_tell_230 rfl rfl (by first | decide | assumption | (constructor <;> omega)) (fun c7 => ?_) (fun c7 => ?_)
              · have ldn := (dg_4 (mP N x3 ((p3 : Int) - 1)).toNat).2 (by omega)
                refine zF_aload_n 237 dL_tell_236 rfl rfl ?_
                refine zF_aload_n 238 dL_tell_237 rfl rfl ?_
                refine zF_ldcS 240 (i := 34) dL_tell_238 rfl rfl ?_
                refine zF_iload_n 241 dL_tell_240 rfl rfl ?_
                refine zF_callS 244 (d2 := (d + 12)) (as := [zR (B0 0), zR wh, zR (zbg + 34), zI ((x3 : Nat) : Int)]) dL_tell_241 rfl kL_80 sL_with (Nat.le_refl _) rfl rfl (Nat.le_of_ble_eq_true rfl) (zE.mono (zt_L_withI (i := 34) hG1 (by decide) SL212 TL212 (by omega) (by omega) (by have hzl : zsl 34 = 7 := rfl; have e31 : zsl 31 = 1 := rfl; have e32 : zsl 32 = 6 := rfl; have e33 : zsl 33 = 4 := rfl; have e30 : zsl 30 = 6 := rfl; have e34 : zsl 34 = 7 := rfl; have e35 : zsl 35 = 6 := rfl; (try simp only [List.length_append, List.length_singleton, sN_n]); omega) hz) fun ro σs241 hh241 => ?_)
                obtain ⟨er241, fr241, T241⟩ := hh241
                subst er241
                refine ⟨fr241.1, ?_⟩
                have S241 := pSh.fr SL212 fr241
                have F241 := FL212.tr (tFr_w fr241)
                have hE241 := EL212.fr (tFr_w fr241) hD.no
                show zF G mL_tell (d + 13) 244 [(4, zI ((p3 : Nat) : Int)), (3, zI ((x3 : Nat) : Int)), (0, zR (B0 0)), (1, zR wh), (2, zR (E 0))] [] σs241 _
                refine zF_iload 246 dL_tell_244 rfl rfl ?_
                refine zF_if_ne 259 249 dL_tell_246 rfl rfl (by first | decide | assumption | (constructor <;> omega)) (fun c8 => ?_) (fun c8 => ?_)
                · have e34 : zsl 34 = 7 := rfl
                  have ld3 := (dg_4 x3).2 (by omega)
                  have ldz : (dg (((x3 : Nat) : Int)).toNat).length ≤ 1 := ld3
                  have ldp := (dg_4 (((p3 : Nat) : Int) - 1).toNat).2 (by omega)
                  refine zF_aload_n 260 dL_tell_259 rfl rfl ?_
                  refine zF_aload_n 261 dL_tell_260 rfl rfl ?_
                  refine zF_ldcS 263 (i := 31) dL_tell_261 rfl rfl ?_
                  refine zF_iload 265 dL_tell_263 rfl rfl ?_
                  refine zF_iconst 266 dL_tell_265 rfl ?_
                  refine zF_isub 267 dL_tell_266 rfl ?_
                  refine zF_callS 270 (d2 := (d + 12)) (as := [zR (B0 0), zR wh, zR (zbg + 31), zI (((p3 : Nat) : Int) - 1)]) dL_tell_267 rfl kL_80 sL_with (Nat.le_refl _) rfl rfl (Nat.le_of_ble_eq_true rfl) (zE.mono (zt_L_withI (i := 31) hG1 (by decide) S241 T241 (by omega) (by omega) (by have hzl : zsl 31 = 1 := rfl; have e31 : zsl 31 = 1 := rfl; have e32 : zsl 32 = 6 := rfl; have e33 : zsl 33 = 4 := rfl; have e30 : zsl 30 = 6 := rfl; have e34 : zsl 34 = 7 := rfl; have e35 : zsl 35 = 6 := rfl; (try simp only [List.length_append, List.length_singleton, sN_n]); omega) hz) fun ro σs267 hh267 => ?_)
                  obtain ⟨er267, fr267, T267⟩ := hh267
                  subst er267
                  refine ⟨fr267.1, ?_⟩
                  have S267 := pSh.fr S241 fr267
                  have F267 := F241.tr (tFr_w fr267)
                  have hE267 := hE241.fr (tFr_w fr267) hD.no
                  show zF G mL_tell (d + 13) 270 [(4, zI ((p3 : Nat) : Int)), (3, zI ((x3 : Nat) : Int)), (0, zR (B0 0)), (1, zR wh), (2, zR (E 0))] [] σs267 _
                  refine zF_aload_n 271 dL_tell_270 rfl rfl ?_
                  refine zF_aload_n 272 dL_tell_271 rfl rfl ?_
                  refine zF_ldcS 274 (i := 31) dL_tell_272 rfl rfl ?_
                  refine zF_aload_n 275 dL_tell_274 rfl rfl ?_
                  refine zF_getRN 278 dL_tell_275 rfl gnL_45 hE267.k0 hE267.l0 (hE267.f 9 6 6 (by decide)).1 ?_
                  refine zF_iload_n 279 dL_tell_278 rfl rfl ?_
                  refine zF_aaldA 280 dL_tell_279 rfl (hE267.f 9 6 6 (by decide)).2.2 (hE267.f 9 6 6 (by decide)).2.1 (by omega) (by omega) (hE267.r9 _ (by omega) (by omega)).1 ?_
                  refine zF_iload 282 dL_tell_280 rfl rfl ?_
                  refine zF_iaload 283 dL_tell_282 rfl (hE267.r9 _ (by omega) (by omega)).2.2 (hE267.r9 _ (by omega) (by omega)).2.1 (by omega) (by omega) (hE267.c9q _ _ (by omega) (by omega) (by omega) (by omega)) ?_
                  refine zF_callS 286 (d2 := (d + 12)) (as := [zR (B0 0), zR wh, zR (zbg + 31), zI (mP N ((x3 : Nat) : Int) (((p3 : Nat) : Int) - 1))]) dL_tell_283 rfl kL_80 sL_with (Nat.le_refl _) rfl rfl (Nat.le_of_ble_eq_true rfl) (zE.mono (zt_L_withI (i := 31) hG1 (by decide) S267 T267 (by omega) (by omega) (by have hzl : zsl 31 = 1 := rfl; have e31 : zsl 31 = 1 := rfl; have e32 : zsl 32 = 6 := rfl; have e33 : zsl 33 = 4 := rfl; have e30 : zsl 30 = 6 := rfl; have e34 : zsl 34 = 7 := rfl; have e35 : zsl 35 = 6 := rfl; (try simp only [List.length_append, List.length_singleton, sN_n]); omega) hz) fun ro σs283 hh283 => ?_)
                  obtain ⟨er283, fr283, T283⟩ := hh283
                  subst er283
                  refine ⟨fr283.1, ?_⟩
                  have S283 := pSh.fr S267 fr283
                  have F283 := F267.tr (tFr_w fr283)
                  have hE283 := hE267.fr (tFr_w fr283) hD.no
                  show zF G mL_tell (d + 13) 286 [(4, zI ((p3 : Nat) : Int)), (3, zI ((x3 : Nat) : Int)), (0, zR (B0 0)), (1, zR wh), (2, zR (E 0))] [] σs283 _
                  refine zF_aload_n 287 dL_tell_286 rfl rfl ?_
                  refine zF_aload_n 288 dL_tell_287 rfl rfl ?_
                  refine zF_bipush 290 dL_tell_288 rfl (by decide) ?_
                  refine zF_callS 293 (d2 := (d + 12)) (as := [zR (B0 0), zR wh, zI 59]) dL_tell_290 rfl kL_14 sL_add (Nat.le_refl _) rfl rfl (Nat.le_of_ble_eq_true rfl) (zE.mono (zt_L_add (b := 59) S283 T283 (by decide) (by have e31 : zsl 31 = 1 := rfl; have e32 : zsl 32 = 6 := rfl; have e33 : zsl 33 = 4 := rfl; have e30 : zsl 30 = 6 := rfl; have e34 : zsl 34 = 7 := rfl; have e35 : zsl 35 = 6 := rfl; have e36 : zsl 36 = 4 := rfl; (try simp only [List.length_append, List.length_singleton, sN_n]); omega) hz) fun ro σs290 hh290 => ?_)
                  obtain ⟨er290, fr290, T290⟩ := hh290
                  subst er290
                  refine ⟨fr290.1, ?_⟩
                  have S290 := pSh.fr S283 fr290
                  have F290 := F283.tr (tFr_w fr290)
                  have hE290 := hE283.fr (tFr_w fr290) hD.no
                  show zF G mL_tell (d + 13) 293 [(4, zI ((p3 : Nat) : Int)), (3, zI ((x3 : Nat) : Int)), (0, zR (B0 0)), (1, zR wh), (2, zR (E 0))] [] σs290 _
                  refine zF_iinc 296 (ls' := [(4, zI (((p3 : Nat) : Int) + 1)), (3, zI ((x3 : Nat) : Int)), (0, zR (B0 0)), (1, zR wh), (2, zR (E 0))]) dL_tell_293 rfl rfl rfl (by decide) rfl ?_
                  refine zF_goto 212 dL_tell_296 rfl ?_
                  exact zF_locs (ls' := [(4, zI (((p3 + 1) : Nat) : Int)), (3, zI ((x3 : Nat) : Int)), (0, zR (B0 0)), (1, zR wh), (2, zR (E 0))]) ⟨zlI rfl (by first | rfl | omega | (push_cast; omega) | exact congrArg (_ + ·) (zbT (by assumption)) | exact congrArg (_ + ·) (zbF (by assumption)) | exact congrArg (_ + ·) (zbT (by omega)) | exact congrArg (_ + ·) (zbF (by omega)) | exact congrArg (_ + ·) (if_pos (by omega)).symm | exact congrArg (_ + ·) (if_neg (by omega)).symm | exact (if_pos (by omega)).symm | exact (if_neg (by omega)).symm | exact zsub_s (if_pos (by omega)).symm | exact zsub_s0 (if_neg (by omega)).symm | exact zadd0 (if_neg (by omega)).symm | exact zadd0 (zbF (by omega)) | exact (Int.sub_zero _).symm), rfl, rfl, rfl, rfl, trivial⟩ (ih212 (p3 + 1) _ (by omega) (⟨by omega, S290, F290, (by have q := T290; rw [show (((p3 : Nat) : Int) - 1).toNat = p3 - 1 by omega] at q; show tI (_ ++ (tPr N x3 p3 ++ (if _ then _ else if _ then _ else _))) wh _; rw [if_neg (by first | assumption | omega), if_neg (by omega)]; unfold clP; have e0 : mP N x3 ((p3 : Int) - 1) = N (154 + 5 * ((x3 : Nat) : Int) + ((p3 : Nat) : Int)) := (by unfold mP; congr 1; omega); rw [e0] at q; simp only [List.append_assoc] at q ⊢; exact q), hE290⟩))
                · have e34 : zsl 34 = 7 := rfl
                  have ld3 := (dg_4 x3).2 (by omega)
                  have ldz : (dg (((x3 : Nat) : Int)).toNat).length ≤ 1 := ld3
                  refine zF_aload_n 250 dL_tell_249 rfl rfl ?_
                  refine zF_aload_n 251 dL_tell_250 rfl rfl ?_
                  refine zF_ldcS 253 (i := 35) dL_tell_251 rfl rfl ?_
                  refine zF_callS 256 (d2 := (d + 12)) (as := [zR (B0 0), zR wh, zR (zbg + 35)]) dL_tell_253 rfl kL_71 sL_word (Nat.le_refl _) rfl rfl (Nat.le_of_ble_eq_true rfl) (zE.mono (zt_L_word (i := 35) hG1 (by decide) S241 T241 (by have hzl : zsl 35 = 6 := rfl; have e34 : zsl 34 = 7 := rfl; (try simp only [List.length_append, List.length_singleton, sN_n]); omega) hz) fun ro σs253 hh253 => ?_)
                  obtain ⟨er253, fr253, T253⟩ := hh253
                  subst er253
                  refine ⟨fr253.1, ?_⟩
                  have S253 := pSh.fr S241 fr253
                  have F253 := F241.tr (tFr_w fr253)
                  have hE253 := hE241.fr (tFr_w fr253) hD.no
                  show zF G mL_tell (d + 13) 256 [(4, zI ((p3 : Nat) : Int)), (3, zI ((x3 : Nat) : Int)), (0, zR (B0 0)), (1, zR wh), (2, zR (E 0))] [] σs253 _
                  refine zF_goto 270 dL_tell_256 rfl ?_
                  refine zF_aload_n 271 dL_tell_270 rfl rfl ?_
                  refine zF_aload_n 272 dL_tell_271 rfl rfl ?_
                  refine zF_ldcS 274 (i := 31) dL_tell_272 rfl rfl ?_
                  refine zF_aload_n 275 dL_tell_274 rfl rfl ?_
                  refine zF_getRN 278 dL_tell_275 rfl gnL_45 hE253.k0 hE253.l0 (hE253.f 9 6 6 (by decide)).1 ?_
                  refine zF_iload_n 279 dL_tell_278 rfl rfl ?_
                  refine zF_aaldA 280 dL_tell_279 rfl (hE253.f 9 6 6 (by decide)).2.2 (hE253.f 9 6 6 (by decide)).2.1 (by omega) (by omega) (hE253.r9 _ (by omega) (by omega)).1 ?_
                  refine zF_iload 282 dL_tell_280 rfl rfl ?_
                  refine zF_iaload 283 dL_tell_282 rfl (hE253.r9 _ (by omega) (by omega)).2.2 (hE253.r9 _ (by omega) (by omega)).2.1 (by omega) (by omega) (hE253.c9q _ _ (by omega) (by omega) (by omega) (by omega)) ?_
                  refine zF_callS 286 (d2 := (d + 12)) (as := [zR (B0 0), zR wh, zR (zbg + 31), zI (mP N ((x3 : Nat) : Int) (((p3 : Nat) : Int) - 1))]) dL_tell_283 rfl kL_80 sL_with (Nat.le_refl _) rfl rfl (Nat.le_of_ble_eq_true rfl) (zE.mono (zt_L_withI (i := 31) hG1 (by decide) S253 T253 (by omega) (by omega) (by have hzl : zsl 31 = 1 := rfl; have e31 : zsl 31 = 1 := rfl; have e32 : zsl 32 = 6 := rfl; have e33 : zsl 33 = 4 := rfl; have e30 : zsl 30 = 6 := rfl; have e34 : zsl 34 = 7 := rfl; have e35 : zsl 35 = 6 := rfl; (try simp only [List.length_append, List.length_singleton, sN_n]); omega) hz) fun ro σs283 hh283 => ?_)
                  obtain ⟨er283, fr283, T283⟩ := hh283
                  subst er283
                  refine ⟨fr283.1, ?_⟩
                  have S283 := pSh.fr S253 fr283
                  have F283 := F253.tr (tFr_w fr283)
                  have hE283 := hE253.fr (tFr_w fr283) hD.no
                  show zF G mL_tell (d + 13) 286 [(4, zI ((p3 : Nat) : Int)), (3, zI ((x3 : Nat) : Int)), (0, zR (B0 0)), (1, zR wh), (2, zR (E 0))] [] σs283 _
                  refine zF_aload_n 287 dL_tell_286 rfl rfl ?_
                  refine zF_aload_n 288 dL_tell_287 rfl rfl ?_
                  refine zF_bipush 290 dL_tell_288 rfl (by decide) ?_
                  refine zF_callS 293 (d2 := (d + 12)) (as := [zR (B0 0), zR wh, zI 59]) dL_tell_290 rfl kL_14 sL_add (Nat.le_refl _) rfl rfl (Nat.le_of_ble_eq_true rfl) (zE.mono (zt_L_add (b := 59) S283 T283 (by decide) (by have e31 : zsl 31 = 1 := rfl; have e32 : zsl 32 = 6 := rfl; have e33 : zsl 33 = 4 := rfl; have e30 : zsl 30 = 6 := rfl; have e34 : zsl 34 = 7 := rfl; have e35 : zsl 35 = 6 := rfl; have e36 : zsl 36 = 4 := rfl; (try simp only [List.length_append, List.length_singleton, sN_n]); omega) hz) fun ro σs290 hh290 => ?_)
                  obtain ⟨er290, fr290, T290⟩ := hh290
                  subst er290
                  refine ⟨fr290.1, ?_⟩
                  have S290 := pSh.fr S283 fr290
                  have F290 := F283.tr (tFr_w fr290)
                  have hE290 := hE283.fr (tFr_w fr290) hD.no
                  show zF G mL_tell (d + 13) 293 [(4, zI ((p3 : Nat) : Int)), (3, zI ((x3 : Nat) : Int)), (0, zR (B0 0)), (1, zR wh), (2, zR (E 0))] [] σs290 _
                  refine zF_iinc 296 (ls' := [(4, zI (((p3 : Nat) : Int) + 1)), (3, zI ((x3 : Nat) : Int)), (0, zR (B0 0)), (1, zR wh), (2, zR (E 0))]) dL_tell_293 rfl rfl rfl (by decide) rfl ?_
                  refine zF_goto 212 dL_tell_296 rfl ?_
                  exact zF_locs (ls' := [(4, zI (((p3 + 1) : Nat) : Int)), (3, zI ((x3 : Nat) : Int)), (0, zR (B0 0)), (1, zR wh), (2, zR (E 0))]) ⟨zlI rfl (by first | rfl | omega | (push_cast; omega) | exact congrArg (_ + ·) (zbT (by assumption)) | exact congrArg (_ + ·) (zbF (by assumption)) | exact congrArg (_ + ·) (zbT (by omega)) | exact congrArg (_ + ·) (zbF (by omega)) | exact congrArg (_ + ·) (if_pos (by omega)).symm | exact congrArg (_ + ·) (if_neg (by omega)).symm | exact (if_pos (by omega)).symm | exact (if_neg (by omega)).symm | exact zsub_s (if_pos (by omega)).symm | exact zsub_s0 (if_neg (by omega)).symm | exact zadd0 (if_neg (by omega)).symm | exact zadd0 (zbF (by omega)) | exact (Int.sub_zero _).symm), rfl, rfl, rfl, rfl, trivial⟩ (ih212 (p3 + 1) _ (by omega) (⟨by omega, S290, F290, (by have q := T290; show tI (_ ++ (tPr N x3 p3 ++ (if _ then _ else if _ then _ else _))) wh _; rw [if_neg (by first | assumption | omega), if_pos (by omega)]; unfold clP0; have e0 : mP N x3 ((p3 : Int) - 1) = N (154 + 5 * ((x3 : Nat) : Int) + ((p3 : Nat) : Int)) := (by unfold mP; congr 1; omega); rw [e0] at q; simp only [List.append_assoc] at q ⊢; exact q), hE290⟩))
              · refine zF_goto 293 dL_tell_233 rfl ?_
                refine zF_iinc 296 (ls' := [(4, zI (((p3 : Nat) : Int) + 1)), (3, zI ((x3 : Nat) : Int)), (0, zR (B0 0)), (1, zR wh), (2, zR (E 0))]) dL_tell_293 rfl rfl rfl (by decide) rfl ?_
                refine zF_goto 212 dL_tell_296 rfl ?_
                exact zF_locs (ls' := [(4, zI (((p3 + 1) : Nat) : Int)), (3, zI ((x3 : Nat) : Int)), (0, zR (B0 0)), (1, zR wh), (2, zR (E 0))]) ⟨zlI rfl (by first | rfl | omega | (push_cast; omega) | exact congrArg (_ + ·) (zbT (by assumption)) | exact congrArg (_ + ·) (zbF (by assumption)) | exact congrArg (_ + ·) (zbT (by omega)) | exact congrArg (_ + ·) (zbF (by omega)) | exact congrArg (_ + ·) (if_pos (by omega)).symm | exact congrArg (_ + ·) (if_neg (by omega)).symm | exact (if_pos (by omega)).symm | exact (if_neg (by omega)).symm | exact zsub_s (if_pos (by omega)).symm | exact zsub_s0 (if_neg (by omega)).symm | exact zadd0 (if_neg (by omega)).symm | exact zadd0 (zbF (by omega)) | exact (Int.sub_zero _).symm), rfl, rfl, rfl, rfl, trivial⟩ (ih212 (p3 + 1) _ (by omega) (⟨by omega, SL212, FL212, (by show tI (_ ++ (tPr N x3 p3 ++ (if _ then _ else _))) wh _; rw [if_pos (by first | assumption | omega), List.append_nil]; exact TL212), EL212⟩))
          · have hv2 := hf3.2.2.2.2.2.2.2.2.2.2 u3 (by omega) (by omega)
            refine zF_aload_n 179 dL_tell_178 rfl rfl ?_
            refine zF_aload_n 180 dL_tell_179 rfl rfl ?_
            refine zF_ldcS 182 (i := 31) dL_tell_180 rfl rfl ?_
            refine zF_aload_n 183 dL_tell_182 rfl rfl ?_
            refine zF_getRN 186 dL_tell_183 rfl gnL_42 EL165.k0 EL165.l0 (EL165.f 8 6 6 (by decide)).1 ?_
            refine zF_iload_n 187 dL_tell_186 rfl rfl ?_
            refine zF_aaldA 188 dL_tell_187 rfl (EL165.f 8 6 6 (by decide)).2.2 (EL165.f 8 6 6 (by decide)).2.1 (by omega) (by omega) (EL165.r8 _ (by omega) (by omega)).1 ?_
            refine zF_iconst 189 dL_tell_188 rfl ?_
            refine zF_iload 191 dL_tell_189 rfl rfl ?_
            refine zF_iadd 192 dL_tell_191 rfl ?_
            refine zF_iaload 193 dL_tell_192 rfl (EL165.r8 _ (by omega) (by omega)).2.2 (EL165.r8 _ (by omega) (by omega)).2.1 (by omega) (by omega) (EL165.c8 _ _ (by omega) (by omega) (by omega) (by omega)) ?_
            refine zF_callS 196 (d2 := (d + 12)) (as := [zR (B0 0), zR wh, zR (zbg + 31), zI (mF N ((x3 : Nat) : Int) (4 + ((u3 : Nat) : Int)))]) dL_tell_193 rfl kL_80 sL_with (Nat.le_refl _) rfl rfl (Nat.le_of_ble_eq_true rfl) (zE.mono (zt_L_withI (i := 31) hG1 (by decide) SL165 TL165 (by omega) (by omega) (by have hzl : zsl 31 = 1 := rfl; have e31 : zsl 31 = 1 := rfl; have e32 : zsl 32 = 6 := rfl; have e33 : zsl 33 = 4 := rfl; have e30 : zsl 30 = 6 := rfl; have e34 : zsl 34 = 7 := rfl; have e35 : zsl 35 = 6 := rfl; (try simp only [List.length_append, List.length_singleton, sN_n]); omega) hz) fun ro σs193 hh193 => ?_)
            obtain ⟨er193, fr193, T193⟩ := hh193
            subst er193
            refine ⟨fr193.1, ?_⟩
            have S193 := pSh.fr SL165 fr193
            have F193 := FL165.tr (tFr_w fr193)
            have hE193 := EL165.fr (tFr_w fr193) hD.no
            show zF G mL_tell (d + 13) 196 [(4, zI ((u3 : Nat) : Int)), (3, zI ((x3 : Nat) : Int)), (0, zR (B0 0)), (1, zR wh), (2, zR (E 0))] [] σs193 _
            refine zF_iinc 199 (ls' := [(4, zI (((u3 : Nat) : Int) + 1)), (3, zI ((x3 : Nat) : Int)), (0, zR (B0 0)), (1, zR wh), (2, zR (E 0))]) dL_tell_196 rfl rfl rfl (by decide) rfl ?_
            refine zF_goto 165 dL_tell_199 rfl ?_
            exact zF_locs (ls' := [(4, zI (((u3 + 1) : Nat) : Int)), (3, zI ((x3 : Nat) : Int)), (0, zR (B0 0)), (1, zR wh), (2, zR (E 0))]) ⟨zlI rfl (by first | rfl | omega | (push_cast; omega) | exact congrArg (_ + ·) (zbT (by assumption)) | exact congrArg (_ + ·) (zbF (by assumption)) | exact congrArg (_ + ·) (zbT (by omega)) | exact congrArg (_ + ·) (zbF (by omega)) | exact congrArg (_ + ·) (if_pos (by omega)).symm | exact congrArg (_ + ·) (if_neg (by omega)).symm | exact (if_pos (by omega)).symm | exact (if_neg (by omega)).symm | exact zsub_s (if_pos (by omega)).symm | exact zsub_s0 (if_neg (by omega)).symm | exact zadd0 (if_neg (by omega)).symm | exact zadd0 (zbF (by omega)) | exact (Int.sub_zero _).symm), rfl, rfl, rfl, rfl, trivial⟩ (ih165 (u3 + 1) _ (by omega) (⟨by omega, S193, F193, (by show tI (tH N (N 0).toNat ++ tSn N (N 1).toNat ++ tFm N x3 ++ tF3 N x3 3 ++ (tT (uT N x3) u3 ++ sN 31 ++ dg _)) wh _; simp only [← List.append_assoc]; exact T193), hE193⟩))
        · have hv2 : 0 ≤ mF N x3 y3 ∧ mF N x3 y3 ≤ 9999 := f3_b hf3 (by omega)
          refine zF_aload_n 141 dL_tell_140 rfl rfl ?_
          refine zF_aload_n 142 dL_tell_141 rfl rfl ?_
          refine zF_ldcS 144 (i := 31) dL_tell_142 rfl rfl ?_
          refine zF_aload_n 145 dL_tell_144 rfl rfl ?_
          refine zF_getRN 148 dL_tell_145 rfl gnL_42 EL134.k0 EL134.l0 (EL134.f 8 6 6 (by decide)).1 ?_
          refine zF_iload_n 149 dL_tell_148 rfl rfl ?_
          refine zF_aaldA 150 dL_tell_149 rfl (EL134.f 8 6 6 (by decide)).2.2 (EL134.f 8 6 6 (by decide)).2.1 (by omega) (by omega) (EL134.r8 _ (by omega) (by omega)).1 ?_
          refine zF_iload 152 dL_tell_150 rfl rfl ?_
          refine zF_iaload 153 dL_tell_152 rfl (EL134.r8 _ (by omega) (by omega)).2.2 (EL134.r8 _ (by omega) (by omega)).2.1 (by omega) (by omega) (EL134.c8 _ _ (by omega) (by omega) (by omega) (by omega)) ?_
          refine zF_callS 156 (d2 := (d + 12)) (as := [zR (B0 0), zR wh, zR (zbg + 31), zI (mF N ((x3 : Nat) : Int) ((y3 : Nat) : Int))]) dL_tell_153 rfl kL_80 sL_with (Nat.le_refl _) rfl rfl (Nat.le_of_ble_eq_true rfl) (zE.mono (zt_L_withI (i := 31) hG1 (by decide) SL134 TL134 (by omega) (by omega) (by have hzl : zsl 31 = 1 := rfl; have e31 : zsl 31 = 1 := rfl; have e32 : zsl 32 = 6 := rfl; have e33 : zsl 33 = 4 := rfl; have e30 : zsl 30 = 6 := rfl; have e34 : zsl 34 = 7 := rfl; have e35 : zsl 35 = 6 := rfl; (try simp only [List.length_append, List.length_singleton, sN_n]); omega) hz) fun ro σs153 hh153 => ?_)
          obtain ⟨er153, fr153, T153⟩ := hh153
          subst er153
          refine ⟨fr153.1, ?_⟩
          have S153 := pSh.fr SL134 fr153
          have F153 := FL134.tr (tFr_w fr153)
          have hE153 := EL134.fr (tFr_w fr153) hD.no
          show zF G mL_tell (d + 13) 156 [(4, zI ((y3 : Nat) : Int)), (3, zI ((x3 : Nat) : Int)), (0, zR (B0 0)), (1, zR wh), (2, zR (E 0))] [] σs153 _
          refine zF_iinc 159 (ls' := [(4, zI (((y3 : Nat) : Int) + 1)), (3, zI ((x3 : Nat) : Int)), (0, zR (B0 0)), (1, zR wh), (2, zR (E 0))]) dL_tell_156 rfl rfl rfl (by decide) rfl ?_
          refine zF_goto 134 dL_tell_159 rfl ?_
          exact zF_locs (ls' := [(4, zI (((y3 + 1) : Nat) : Int)), (3, zI ((x3 : Nat) : Int)), (0, zR (B0 0)), (1, zR wh), (2, zR (E 0))]) ⟨zlI rfl (by first | rfl | omega | (push_cast; omega) | exact congrArg (_ + ·) (zbT (by assumption)) | exact congrArg (_ + ·) (zbF (by assumption)) | exact congrArg (_ + ·) (zbT (by omega)) | exact congrArg (_ + ·) (zbF (by omega)) | exact congrArg (_ + ·) (if_pos (by omega)).symm | exact congrArg (_ + ·) (if_neg (by omega)).symm | exact (if_pos (by omega)).symm | exact (if_neg (by omega)).symm | exact zsub_s (if_pos (by omega)).symm | exact zsub_s0 (if_neg (by omega)).symm | exact zadd0 (if_neg (by omega)).symm | exact zadd0 (zbF (by omega)) | exact (Int.sub_zero _).symm), rfl, rfl, rfl, rfl, trivial⟩ (ih134 (y3 + 1) _ (by omega) (⟨by omega, S153, F153, (by show tI (tH N (N 0).toNat ++ tSn N (N 1).toNat ++ tFm N x3 ++ (tF3 N x3 y3 ++ sN 31 ++ dg _)) wh _; simp only [← List.append_assoc]; exact T153), hE153⟩))
    · refine zF_aload_n 64 dL_tell_63 rfl rfl ?_
      refine zF_aload_n 65 dL_tell_64 rfl rfl ?_
      refine zF_ldcS 67 (i := 32) dL_tell_65 rfl rfl ?_
      refine zF_callS 70 (d2 := (d + 12)) (as := [zR (B0 0), zR wh, zR (zbg + 32)]) dL_tell_67 rfl kL_71 sL_word (Nat.le_refl _) rfl rfl (Nat.le_of_ble_eq_true rfl) (zE.mono (zt_L_word (i := 32) hG1 (by decide) SL55 TL55 (by have hzl : zsl 32 = 6 := rfl; have e34 : zsl 34 = 7 := rfl; (try simp only [List.length_append, List.length_singleton, sN_n]); omega) hz) fun ro σs67 hh67 => ?_)
      obtain ⟨er67, fr67, T67⟩ := hh67
      subst er67
      refine ⟨fr67.1, ?_⟩
      have S67 := pSh.fr SL55 fr67
      have F67 := FL55.tr (tFr_w fr67)
      have hE67 := EL55.fr (tFr_w fr67) hD.no
      show zF G mL_tell (d + 13) 70 [(3, zI ((x2 : Nat) : Int)), (0, zR (B0 0)), (1, zR wh), (2, zR (E 0))] [] σs67 _
      refine zF_iconst 71 dL_tell_70 rfl ?_
      refine zF_istore 73 (ls' := [(4, zI 0), (3, zI ((x2 : Nat) : Int)), (0, zR (B0 0)), (1, zR wh), (2, zR (E 0))]) dL_tell_71 rfl (by decide) rfl ?_
      refine zF_locs (ls' := [(4, zI ((0 : Nat) : Int)), (3, zI ((x2 : Nat) : Int)), (0, zR (B0 0)), (1, zR wh), (2, zR (E 0))]) ⟨zlI rfl (by first | rfl | omega | (push_cast; omega) | exact congrArg (_ + ·) (zbT (by assumption)) | exact congrArg (_ + ·) (zbF (by assumption)) | exact congrArg (_ + ·) (zbT (by omega)) | exact congrArg (_ + ·) (zbF (by omega)) | exact congrArg (_ + ·) (if_pos (by omega)).symm | exact congrArg (_ + ·) (if_neg (by omega)).symm | exact (if_pos (by omega)).symm | exact (if_neg (by omega)).symm | exact zsub_s (if_pos (by omega)).symm | exact zsub_s0 (if_neg (by omega)).symm | exact zadd0 (if_neg (by omega)).symm | exact zadd0 (zbF (by omega)) | exact (Int.sub_zero _).symm), rfl, rfl, rfl, rfl, trivial⟩ ?_
      refine zF_while (X := Nat) (fun x => ((4 : Int)).toNat - x) (fun x σ73 => ((x : Nat) : Int) ≤ (4 : Int) ∧ pSh σ73 ∧ zFr (PBw wh) σ σ73 ∧ tI (tH N (N 0).toNat ++ tSn N x2 ++ tS4 N x2 x) wh σ73 ∧ eO N σ73 E) (fun x => [(4, zI ((x : Nat) : Int)), (3, zI ((x2 : Nat) : Int)), (0, zR (B0 0)), (1, zR wh), (2, zR (E 0))]) ?_ 0 σs67 (⟨by omega, S67, F67, (T67), hE67⟩)
      intro y2 σ73 hI73 ih73
      show zF G mL_tell (d + 13) 73 [(4, zI ((y2 : Nat) : Int)), (3, zI ((x2 : Nat) : Int)), (0, zR (B0 0)), (1, zR wh), (2, zR (E 0))] [] σ73 _
      obtain ⟨hx73, SL73, FL73, TL73, EL73⟩ := hI73
      change tI (tH N (N 0).toNat ++ tSn N x2 ++ tS4 N x2 y2) wh σ73 at TL73
      have hs2 := hN.2.2.1 x2 (by omega) (by omega)
      have hl4 := tS4_l (N := N) (s := x2) (k := y2)
      refine zF_iload 75 dL_tell_73 rfl rfl ?_
      refine zF_iconst 76 dL_tell_75 rfl ?_
      refine zF_icmp_ge 101 79 dL_tell_76 rfl rfl (by first | decide | assumption | (constructor <;> omega)) (by first | decide | assumption | (constructor <;> omega)) (fun c9 => ?_) (fun c9 => ?_)
      · refine zF_aload_n 102 dL_tell_101 rfl rfl ?_
        refine zF_aload_n 103 dL_tell_102 rfl rfl ?_
        refine zF_bipush 105 dL_tell_103 rfl (by decide) ?_
        refine zF_callS 108 (d2 := (d + 12)) (as := [zR (B0 0), zR wh, zI 59]) dL_tell_105 rfl kL_14 sL_add (Nat.le_refl _) rfl rfl (Nat.le_of_ble_eq_true rfl) (zE.mono (zt_L_add (b := 59) SL73 TL73 (by decide) (by have e31 : zsl 31 = 1 := rfl; have e32 : zsl 32 = 6 := rfl; have e33 : zsl 33 = 4 := rfl; have e30 : zsl 30 = 6 := rfl; have e34 : zsl 34 = 7 := rfl; have e35 : zsl 35 = 6 := rfl; have e36 : zsl 36 = 4 := rfl; (try simp only [List.length_append, List.length_singleton, sN_n]); omega) hz) fun ro σs105 hh105 => ?_)
        obtain ⟨er105, fr105, T105⟩ := hh105
        subst er105
        refine ⟨fr105.1, ?_⟩
        have S105 := pSh.fr SL73 fr105
        have F105 := FL73.tr (tFr_w fr105)
        have hE105 := EL73.fr (tFr_w fr105) hD.no
        show zF G mL_tell (d + 13) 108 [(4, zI ((y2 : Nat) : Int)), (3, zI ((x2 : Nat) : Int)), (0, zR (B0 0)), (1, zR wh), (2, zR (E 0))] [] σs105 _
        refine zF_iinc 111 (ls' := [(3, zI (((x2 : Nat) : Int) + 1)), (4, zI ((y2 : Nat) : Int)), (0, zR (B0 0)), (1, zR wh), (2, zR (E 0))]) dL_tell_108 rfl rfl rfl (by decide) rfl ?_
        refine zF_goto 55 dL_tell_111 rfl ?_
        exact zF_locs (ls' := [(3, zI (((x2 + 1) : Nat) : Int)), (0, zR (B0 0)), (1, zR wh), (2, zR (E 0))]) ⟨zlI rfl (by first | rfl | omega | (push_cast; omega) | exact congrArg (_ + ·) (zbT (by assumption)) | exact congrArg (_ + ·) (zbF (by assumption)) | exact congrArg (_ + ·) (zbT (by omega)) | exact congrArg (_ + ·) (zbF (by omega)) | exact congrArg (_ + ·) (if_pos (by omega)).symm | exact congrArg (_ + ·) (if_neg (by omega)).symm | exact (if_pos (by omega)).symm | exact (if_neg (by omega)).symm | exact zsub_s (if_pos (by omega)).symm | exact zsub_s0 (if_neg (by omega)).symm | exact zadd0 (if_neg (by omega)).symm | exact zadd0 (zbF (by omega)) | exact (Int.sub_zero _).symm), rfl, rfl, rfl, trivial⟩ (ih55 (x2 + 1) _ (by omega) (⟨by omega, S105, F105, (by have ey : y2 = 4 := (by omega); subst ey; show tI (tH N (N 0).toNat ++ (tSn N x2 ++ clSc _ _ _ _)) wh _; rw [← List.append_assoc]; have q := T105; rw [List.append_assoc _ _ [59]] at q; exact q), hE105⟩))
      · have hv2 : 0 ≤ mS N x2 y2 ∧ mS N x2 y2 ≤ 9999 := s4_b hs2 (by omega) (by omega)
        refine zF_aload_n 80 dL_tell_79 rfl rfl ?_
        refine zF_aload_n 81 dL_tell_80 rfl rfl ?_
        refine zF_ldcS 83 (i := 31) dL_tell_81 rfl rfl ?_
        refine zF_aload_n 84 dL_tell_83 rfl rfl ?_
        refine zF_getRN 87 dL_tell_84 rfl gnL_52 EL73.k0 EL73.l0 (EL73.f 7 6 10 (by decide)).1 ?_
        refine zF_iload_n 88 dL_tell_87 rfl rfl ?_
        refine zF_aaldA 89 dL_tell_88 rfl (EL73.f 7 6 10 (by decide)).2.2 (EL73.f 7 6 10 (by decide)).2.1 (by omega) (by omega) (EL73.r7 _ (by omega) (by omega)).1 ?_
        refine zF_iload 91 dL_tell_89 rfl rfl ?_
        refine zF_iaload 92 dL_tell_91 rfl (EL73.r7 _ (by omega) (by omega)).2.2 (EL73.r7 _ (by omega) (by omega)).2.1 (by omega) (by omega) (EL73.c7 _ _ (by omega) (by omega) (by omega) (by omega)) ?_
        refine zF_callS 95 (d2 := (d + 12)) (as := [zR (B0 0), zR wh, zR (zbg + 31), zI (mS N ((x2 : Nat) : Int) ((y2 : Nat) : Int))]) dL_tell_92 rfl kL_80 sL_with (Nat.le_refl _) rfl rfl (Nat.le_of_ble_eq_true rfl) (zE.mono (zt_L_withI (i := 31) hG1 (by decide) SL73 TL73 (by omega) (by omega) (by have hzl : zsl 31 = 1 := rfl; have e31 : zsl 31 = 1 := rfl; have e32 : zsl 32 = 6 := rfl; have e33 : zsl 33 = 4 := rfl; have e30 : zsl 30 = 6 := rfl; have e34 : zsl 34 = 7 := rfl; have e35 : zsl 35 = 6 := rfl; (try simp only [List.length_append, List.length_singleton, sN_n]); omega) hz) fun ro σs92 hh92 => ?_)
        obtain ⟨er92, fr92, T92⟩ := hh92
        subst er92
        refine ⟨fr92.1, ?_⟩
        have S92 := pSh.fr SL73 fr92
        have F92 := FL73.tr (tFr_w fr92)
        have hE92 := EL73.fr (tFr_w fr92) hD.no
        show zF G mL_tell (d + 13) 95 [(4, zI ((y2 : Nat) : Int)), (3, zI ((x2 : Nat) : Int)), (0, zR (B0 0)), (1, zR wh), (2, zR (E 0))] [] σs92 _
        refine zF_iinc 98 (ls' := [(4, zI (((y2 : Nat) : Int) + 1)), (3, zI ((x2 : Nat) : Int)), (0, zR (B0 0)), (1, zR wh), (2, zR (E 0))]) dL_tell_95 rfl rfl rfl (by decide) rfl ?_
        refine zF_goto 73 dL_tell_98 rfl ?_
        exact zF_locs (ls' := [(4, zI (((y2 + 1) : Nat) : Int)), (3, zI ((x2 : Nat) : Int)), (0, zR (B0 0)), (1, zR wh), (2, zR (E 0))]) ⟨zlI rfl (by first | rfl | omega | (push_cast; omega) | exact congrArg (_ + ·) (zbT (by assumption)) | exact congrArg (_ + ·) (zbF (by assumption)) | exact congrArg (_ + ·) (zbT (by omega)) | exact congrArg (_ + ·) (zbF (by omega)) | exact congrArg (_ + ·) (if_pos (by omega)).symm | exact congrArg (_ + ·) (if_neg (by omega)).symm | exact (if_pos (by omega)).symm | exact (if_neg (by omega)).symm | exact zsub_s (if_pos (by omega)).symm | exact zsub_s0 (if_neg (by omega)).symm | exact zadd0 (if_neg (by omega)).symm | exact zadd0 (zbF (by omega)) | exact (Int.sub_zero _).symm), rfl, rfl, rfl, rfl, trivial⟩ (ih73 (y2 + 1) _ (by omega) (⟨by omega, S92, F92, (by show tI (tH N (N 0).toNat ++ tSn N x2 ++ (tS4 N x2 y2 ++ sN 31 ++ dg _)) wh _; simp only [← List.append_assoc]; exact T92), hE92⟩))
  · have hH2 := hN.2.1 x (by omega) (by omega)
    have ldh := (dg_4 (mH N x 0).toNat).1
    have ldg := (dg_4 (mH N x 1).toNat).1
    refine zF_aload_n 11 dL_tell_10 rfl rfl ?_
    refine zF_aload_n 12 dL_tell_11 rfl rfl ?_
    refine zF_ldcS 14 (i := 30) dL_tell_12 rfl rfl ?_
    refine zF_aload_n 15 dL_tell_14 rfl rfl ?_
    refine zF_getRN 18 dL_tell_15 rfl gnL_35 EL2.k0 EL2.l0 (EL2.f 6 6 4 (by decide)).1 ?_
    refine zF_iload_n 19 dL_tell_18 rfl rfl ?_
    refine zF_aaldA 20 dL_tell_19 rfl (EL2.f 6 6 4 (by decide)).2.2 (EL2.f 6 6 4 (by decide)).2.1 (by omega) (by omega) (EL2.r6 _ (by omega) (by omega)).1 ?_
    refine zF_iconst 21 dL_tell_20 rfl ?_
    refine zF_iaload 22 dL_tell_21 rfl (EL2.r6 _ (by omega) (by omega)).2.2 (EL2.r6 _ (by omega) (by omega)).2.1 (by omega) (by omega) (EL2.c6 _ _ (by omega) (by omega) (by omega) (by omega)) ?_
    refine zF_callS 25 (d2 := (d + 12)) (as := [zR (B0 0), zR wh, zR (zbg + 30), zI (mH N ((x : Nat) : Int) 0)]) dL_tell_22 rfl kL_80 sL_with (Nat.le_refl _) rfl rfl (Nat.le_of_ble_eq_true rfl) (zE.mono (zt_L_withI (i := 30) hG1 (by decide) SL2 TL2 (by omega) (by omega) (by have hzl : zsl 30 = 6 := rfl; have e31 : zsl 31 = 1 := rfl; have e32 : zsl 32 = 6 := rfl; have e33 : zsl 33 = 4 := rfl; have e30 : zsl 30 = 6 := rfl; have e34 : zsl 34 = 7 := rfl; have e35 : zsl 35 = 6 := rfl; (try simp only [List.length_append, List.length_singleton, sN_n]); omega) hz) fun ro σs22 hh22 => ?_)
    obtain ⟨er22, fr22, T22⟩ := hh22
    subst er22
    refine ⟨fr22.1, ?_⟩
    have S22 := pSh.fr SL2 fr22
    have F22 := FL2.tr (tFr_w fr22)
    have hE22 := EL2.fr (tFr_w fr22) hD.no
    show zF G mL_tell (d + 13) 25 [(3, zI ((x : Nat) : Int)), (0, zR (B0 0)), (1, zR wh), (2, zR (E 0))] [] σs22 _
    refine zF_aload_n 26 dL_tell_25 rfl rfl ?_
    refine zF_aload_n 27 dL_tell_26 rfl rfl ?_
    refine zF_ldcS 29 (i := 31) dL_tell_27 rfl rfl ?_
    refine zF_aload_n 30 dL_tell_29 rfl rfl ?_
    refine zF_getRN 33 dL_tell_30 rfl gnL_35 hE22.k0 hE22.l0 (hE22.f 6 6 4 (by decide)).1 ?_
    refine zF_iload_n 34 dL_tell_33 rfl rfl ?_
    refine zF_aaldA 35 dL_tell_34 rfl (hE22.f 6 6 4 (by decide)).2.2 (hE22.f 6 6 4 (by decide)).2.1 (by omega) (by omega) (hE22.r6 _ (by omega) (by omega)).1 ?_
    refine zF_iconst 36 dL_tell_35 rfl ?_
    refine zF_iaload 37 dL_tell_36 rfl (hE22.r6 _ (by omega) (by omega)).2.2 (hE22.r6 _ (by omega) (by omega)).2.1 (by omega) (by omega) (hE22.c6 _ _ (by omega) (by omega) (by omega) (by omega)) ?_
    refine zF_callS 40 (d2 := (d + 12)) (as := [zR (B0 0), zR wh, zR (zbg + 31), zI (mH N ((x : Nat) : Int) 1)]) dL_tell_37 rfl kL_80 sL_with (Nat.le_refl _) rfl rfl (Nat.le_of_ble_eq_true rfl) (zE.mono (zt_L_withI (i := 31) hG1 (by decide) S22 T22 (by omega) (by omega) (by have hzl : zsl 31 = 1 := rfl; have e31 : zsl 31 = 1 := rfl; have e32 : zsl 32 = 6 := rfl; have e33 : zsl 33 = 4 := rfl; have e30 : zsl 30 = 6 := rfl; have e34 : zsl 34 = 7 := rfl; have e35 : zsl 35 = 6 := rfl; (try simp only [List.length_append, List.length_singleton, sN_n]); omega) hz) fun ro σs37 hh37 => ?_)
    obtain ⟨er37, fr37, T37⟩ := hh37
    subst er37
    refine ⟨fr37.1, ?_⟩
    have S37 := pSh.fr S22 fr37
    have F37 := F22.tr (tFr_w fr37)
    have hE37 := hE22.fr (tFr_w fr37) hD.no
    show zF G mL_tell (d + 13) 40 [(3, zI ((x : Nat) : Int)), (0, zR (B0 0)), (1, zR wh), (2, zR (E 0))] [] σs37 _
    refine zF_aload_n 41 dL_tell_40 rfl rfl ?_
    refine zF_aload_n 42 dL_tell_41 rfl rfl ?_
    refine zF_bipush 44 dL_tell_42 rfl (by decide) ?_
    refine zF_callS 47 (d2 := (d + 12)) (as := [zR (B0 0), zR wh, zI 59]) dL_tell_44 rfl kL_14 sL_add (Nat.le_refl _) rfl rfl (Nat.le_of_ble_eq_true rfl) (zE.mono (zt_L_add (b := 59) S37 T37 (by decide) (by have e31 : zsl 31 = 1 := rfl; have e32 : zsl 32 = 6 := rfl; have e33 : zsl 33 = 4 := rfl; have e30 : zsl 30 = 6 := rfl; have e34 : zsl 34 = 7 := rfl; have e35 : zsl 35 = 6 := rfl; have e36 : zsl 36 = 4 := rfl; (try simp only [List.length_append, List.length_singleton, sN_n]); omega) hz) fun ro σs44 hh44 => ?_)
    obtain ⟨er44, fr44, T44⟩ := hh44
    subst er44
    refine ⟨fr44.1, ?_⟩
    have S44 := pSh.fr S37 fr44
    have F44 := F37.tr (tFr_w fr44)
    have hE44 := hE37.fr (tFr_w fr44) hD.no
    show zF G mL_tell (d + 13) 47 [(3, zI ((x : Nat) : Int)), (0, zR (B0 0)), (1, zR wh), (2, zR (E 0))] [] σs44 _
    refine zF_iinc 50 (ls' := [(3, zI (((x : Nat) : Int) + 1)), (0, zR (B0 0)), (1, zR wh), (2, zR (E 0))]) dL_tell_47 rfl rfl rfl (by decide) rfl ?_
    refine zF_goto 2 dL_tell_50 rfl ?_
    exact zF_locs (ls' := [(3, zI (((x + 1) : Nat) : Int)), (0, zR (B0 0)), (1, zR wh), (2, zR (E 0))]) ⟨zlI rfl (by first | rfl | omega | (push_cast; omega) | exact congrArg (_ + ·) (zbT (by assumption)) | exact congrArg (_ + ·) (zbF (by assumption)) | exact congrArg (_ + ·) (zbT (by omega)) | exact congrArg (_ + ·) (zbF (by omega)) | exact congrArg (_ + ·) (if_pos (by omega)).symm | exact congrArg (_ + ·) (if_neg (by omega)).symm | exact (if_pos (by omega)).symm | exact (if_neg (by omega)).symm | exact zsub_s (if_pos (by omega)).symm | exact zsub_s0 (if_neg (by omega)).symm | exact zadd0 (if_neg (by omega)).symm | exact zadd0 (zbF (by omega)) | exact (Int.sub_zero _).symm), rfl, rfl, rfl, trivial⟩ (ih2 (x + 1) _ (by omega) (⟨by omega, S44, F44, (by have q := T44; simp only [List.append_assoc] at q; show tI (tH N x ++ clH _ _) wh _; unfold clH; simp only [List.append_assoc]; exact q), hE44⟩))
end ZT8
